/-! a byte of memory read, changed, written -/
def Addr0 (s : S_Proc) (u : S_Model) (mc o mm : Int32) : Prop := ∃ at_, wd16 at_ ∧ Cm2 (wp_X5_addressOf (sP s 14 0) mc o) at_ (sP s 14 0) ∧ Cm2 (wp_X9_address u mm) at_ (mI u 11 0)
theorem a0_ZP {s : S_Proc} {u : S_Model} {o : Int32} (ho : by8 o) (eo : u.1 9 = o) : Addr0 s u 4 o 1 := ⟨o, ho.wd, fun Φ hp => by simp [wp_X5_addressOf]; exact hp, fun Φ hp => by simp [wp_X9_address, eo]; exact hp⟩
theorem a0_ABS {s : S_Proc} {u : S_Model} {o : Int32} (ho : wd16 o) (eo : u.1 10 = o) : Addr0 s u 10 o 4 := ⟨o, ho, fun Φ hp => by simp [wp_X5_addressOf]; exact hp, fun Φ hp => by simp [wp_X9_address, eo]; exact hp⟩
theorem a0_ZX {K : Kp} {g : Nat} {s : S_Proc} {u : S_Model} (h : RR K g s u) {o : Int32} (eo : u.1 9 = o) : Addr0 s u 5 o 2 := by
  refine ⟨(o + s.1 1) &&& 255, (by8_and _).wd, fun Φ hp => ?_, fun Φ hp => ?_⟩
  · simp [wp_X5_addressOf]; exact hp
  · rw [h.1.1.2.1, ← eo] at hp
    simp [wp_X9_address]
    exact ⟨vp14, hp⟩
theorem c61_0 {s : S_Proc} {c op mc o at_ : Int32} {T : Nat} {Φ : S_Proc → Prop} (k1 : Cm2 (wp_X5_addressOf (sP s 14 0) mc o) at_ (sP s 14 0)) (hc : vp_in c 256) (ht : tab 2 c.toNatClampNeg = nI T) (h : wp_X5_carryOut_108 (sP (sP s 14 0) 13 (nI T)) c op mc o at_ Φ) : wp_X5_carryOut_61 s c op mc o Φ := by
  refine k1 _ ⟨hc, fun _ => ?_, fun q => absurd rfl q⟩
  rw [ht]; exact h
/-- reading, changing, writing on both sides, from related states -/
theorem rmw {K : Kp} {g : Nat} (hg : g < 2 ^ 30) {s : S_Proc} {u : S_Model} (h : RR K g s u) {at_ : Int32} (hat : wd16 at_) {op k what : Int32} (hU : ∀ {s2 : S_Proc} {u2 : S_Model}, RR K g s2 u2 → ∀ (k : Int32) {v : Int32}, by8 v → ChOK K g s2 u2 op k what v) {mc : Int32} (hmc : ¬ mc = 1) : ∃ s' u', Cm1 (wp_X5_change s op k mc at_) s' ∧ (∀ Φ : S_Model → Prop, Φ u' → wp_X9_read u at_ (fun r4 u5 => wp_X9_changed u5 what r4 (fun r6 u7 => wp_X9_write u7 at_ r6 Φ))) ∧ RR K (g + 4) s' u' ∧ s'.1 13 = s.1 13 ∧ u'.1 11 = u.1 11 := by
  obtain ⟨v, b1, u1, hv, r1, r2, hR1, hs1⟩ := h.read hat
  obtain ⟨r, s2, u2, hr, c1, c2, hR2, e13, e11⟩ := hU hR1 k hv
  obtain ⟨b3, u3, w1, w2, hR3, hs3⟩ := hR2.write hg hat hr
  refine ⟨(s2.1, s2.2.1, s2.2.2.1, b3), u3, fun Φ hp => ⟨fun q => absurd q hmc, fun _ => r1 _ (c1 _ (w1 _ hp))⟩, fun Φ hp => r2 _ (c2 _ (w2 _ hp)), hR3.mono (by omega), e13, ?_⟩
  rw [hs3.1.2.2.2.2.2.2.2.2.1, e11, hs1.1.2.2.2.2.2.2.2.2.1]
theorem ins_ch0 {K : Kp} {g : Nat} (hg : g < 2 ^ 30) {s : S_Proc} {u : S_Model} (h : RR K g s u) {c op mc o mm what : Int32} {T : Nat} (hA : Addr0 s u mc o mm) (hc : vp_in c 256) (ht : tab 2 c.toNatClampNeg = nI T) (h1 : 1 ≤ T) (h2 : T ≤ 8) (hop : op >>> ((4 : Int32) &&& 31) = 2) (hU : ∀ {s2 : S_Proc} {u2 : S_Model}, RR K g s2 u2 → ∀ (k : Int32) {v : Int32}, by8 v → ChOK K g s2 u2 op k what v) (hmc : ¬ mc = 1) (hm10 : ¬ mm = 10) (hm5 : ¬ mm = 5) (hn : (mm = 1 → nI T = 5) ∧ (¬ mm = 1 → nI T = 6)) : InsOK K g s c op mc o (wp_X9_change u what mm) := by
  obtain ⟨at_, hat, k1, k2⟩ := hA
  have hR1 : RR K g (sP (sP s 14 0) 13 (nI T)) (mI u 11 0) := ((h.c14 0).m11 0).c13 _
  obtain ⟨s', u', q1, q2, q3, q4, q5⟩ := rmw hg hR1 hat (k := (c >>> ((4 : Int32) &&& 31)) &&& 7) hU hmc
  refine ⟨s', nI T, u', fun Φ hp => c61_0 k1 hc ht (c108_2 hop (q1 _ hp)), fun Φ hp => ⟨fun q => absurd q hm10, fun _ => k2 _ (q2 _ ⟨fun q => ?_, fun q => ⟨fun q2 => absurd q2 hm5, fun _ => ?_⟩⟩)⟩, q3, q4, nIT h1 h2⟩
  · rw [hn.1 q] at hp; exact hp
  · rw [hn.2 q] at hp; exact hp
theorem ins_chXs {K : Kp} {g : Nat} (hg : g < 2 ^ 30) {s : S_Proc} {u : S_Model} {c op o what : Int32} (hA : AddrOK K g s u 11 o 5) (hc : vp_in c 256) (ht : tab 2 c.toNatClampNeg = nI 6) (hop : op >>> ((4 : Int32) &&& 31) = 2) (hop2 : ¬ op < 32 ∧ ¬ 35 < op) (hw : ¬ (3 : Int32) < what) (hU : ∀ {s2 : S_Proc} {u2 : S_Model}, RR K g s2 u2 → ∀ (k : Int32) {v : Int32}, by8 v → ChOK K g s2 u2 op k what v) : InsOK K g s c op 11 o (wp_X9_change u what 5) := by
  obtain ⟨at_, s1, u1, hat, k1, k2, hR, hb, he, hs⟩ := hA
  have hR1 : RR K g (sP s1 13 (nI 6 + s1.1 14)) u1 := hR.c13 _
  obtain ⟨s', u', q1, q2, q3, q4, q5⟩ := rmw hg hR1 hat (k := (c >>> ((4 : Int32) &&& 31)) &&& 7) (mc := 11) hU (by decide)
  obtain ⟨l, hl, el⟩ := bl1_nI hb
  refine ⟨s', nI 6 + s1.1 14, u', fun Φ hp => c61_yes k1 hc ht hb (pays_s hop2 (by rw [hop]; decide)) (c108_2 hop (q1 _ hp)), fun Φ hp => ⟨fun q => absurd q (by decide), fun _ => k2 _ (q2 _ ⟨fun q => absurd q (by decide), fun _ => ⟨fun _ => ⟨fun q => absurd q hw, fun _ => ⟨fun z => ?_, fun z => ?_⟩⟩, fun q => absurd rfl q⟩⟩)⟩, q3, q4, nIk (e := 0) (by rw [el]; exact (add0 _).symm) (by omega) (by omega) hl (by omega)⟩
  · rw [q5, ← he] at z
    rw [z] at hp; exact hp
  · rw [q5, ← he] at z
    rw [hb.resolve_left z] at hp; exact hp
theorem ins_chXi {K : Kp} {g : Nat} (hg : g < 2 ^ 30) {s : S_Proc} {u : S_Model} {c op o what : Int32} (hA : AddrOK K g s u 11 o 5) (hc : vp_in c 256) (ht : tab 2 c.toNatClampNeg = nI 7) (hop : op >>> ((4 : Int32) &&& 31) = 2) (hop2 : 35 < op) (hw : (3 : Int32) < what) (hU : ∀ {s2 : S_Proc} {u2 : S_Model}, RR K g s2 u2 → ∀ (k : Int32) {v : Int32}, by8 v → ChOK K g s2 u2 op k what v) : InsOK K g s c op 11 o (wp_X9_change u what 5) := by
  obtain ⟨at_, s1, u1, hat, k1, k2, hR, hb, he, hs⟩ := hA
  have hR1 : RR K g (sP s1 13 (nI 7)) u1 := hR.c13 _
  obtain ⟨s', u', q1, q2, q3, q4, q5⟩ := rmw hg hR1 hat (k := (c >>> ((4 : Int32) &&& 31)) &&& 7) (mc := 11) hU (by decide)
  exact ⟨s', nI 7, u', fun Φ hp => c61_no k1 hc ht (pays_w (by rw [hop]; decide) (Or.inr hop2)) (c108_2 hop (q1 _ hp)), fun Φ hp => ⟨fun q => absurd q (by decide), fun _ => k2 _ (q2 _ ⟨fun q => absurd q (by decide), fun _ => ⟨fun _ => ⟨fun _ => hp, fun q => absurd hw q⟩, fun q => absurd rfl q⟩⟩)⟩, q3, q4, nIT (by omega) (by omega)⟩
/-- TSB, TRB -/
theorem ins_marks {K : Kp} {g : Nat} (hg : g < 2 ^ 30) {s : S_Proc} {u : S_Model} (h : RR K g s u) {c op mc o mm set_ : Int32} {T : Nat} (hA : Addr0 s u mc o mm) (hc : vp_in c 256) (ht : tab 2 c.toNatClampNeg = nI T) (h1 : 1 ≤ T) (h2 : T ≤ 8) (hmc : ¬ mc = 1) (hops : (op = 38 ∧ set_ = 1) ∨ (op = 39 ∧ set_ = 0)) (hn : (mm = 1 → nI T = 5) ∧ (¬ mm = 1 → nI T = 6)) : InsOK K g s c op mc o (wp_X9_marks u set_ mm) := by
  obtain ⟨at_, hat, k1, k2⟩ := hA
  have hR1 : RR K g (sP (sP s 14 0) 13 (nI T)) (mI u 11 0) := ((h.c14 0).m11 0).c13 _
  obtain ⟨v, b1, u1, hv, r1, r2, hR2, hs1⟩ := hR1.read hat
  obtain ⟨Z, hZ⟩ : ∃ Z : Int32, Z = if u1.2.2 2 0 &&& v = 0 then (1 : Int32) else 0 := ⟨_, rfl⟩
  have hR3 := hR2.mark 2 Z (by decide) (by8_of (n := 2) (by omega))
  have e0 := hR2.1.1.1
  have m64 : ∀ (m u' : S_Model) (r : Int32) (Φ : Int32 → S_Model → Prop), Cm1 (wp_X9_write m at_ r) u' → Φ (nI T) u' → wp_X9_marks_64 m mm at_ r Φ := by
    intro m u' r Φ hw hp
    refine hw _ ⟨fun q => ?_, fun q => ?_⟩
    · rw [hn.1 q] at hp; exact hp
    · rw [hn.2 q] at hp; exact hp
  rcases hops with ⟨rfl, rfl⟩ | ⟨rfl, rfl⟩
  · have hr : by8 (v ||| u1.2.2 2 0) := by8_or hv hR2.1.2.1.1
    obtain ⟨b3, u3, w1, w2, hR4, hs4⟩ := hR3.write hg hat hr
    refine ⟨_, nI T, u3, fun Φ hp => c61_0 k1 hc ht (c108_2 (by decide) ⟨fun q => absurd q hmc, fun _ => r1 _ ?_⟩), fun Φ hp => k2 _ (r2 _ ⟨vp04, fun v11 e11 => ?_⟩), hR4.mono (by omega), rfl, nIT h1 h2⟩
    · simp [wp_X5_changed]
      refine ⟨fun q => ?_, fun q => ?_⟩
      · have q : s.1 0 &&& v = 0 := q
        rw [show s.1 0 = u1.2.2 2 0 from e0] at q
        rw [if_pos q] at hZ; subst hZ
        refine cmC_mark _ 2 1 _ ?_
        show wp_X0_write _ at_ (v ||| s.1 0) _
        rw [show s.1 0 = u1.2.2 2 0 from e0]
        exact w1 _ hp
      · have q : ¬ s.1 0 &&& v = 0 := q
        rw [show s.1 0 = u1.2.2 2 0 from e0] at q
        rw [if_neg q] at hZ; subst hZ
        refine cmC_mark _ 2 0 _ ?_
        show wp_X0_write _ at_ (v ||| s.1 0) _
        rw [show s.1 0 = u1.2.2 2 0 from e0]
        exact w1 _ hp
    · have e11 : v11 = u1.2.2 2 0 &&& v := e11
      refine ⟨fun q => ?_, fun q => ?_⟩
      · rw [if_pos (e11.symm.trans q)] at hZ; subst hZ
        exact cmM_flag u1 2 1 _ ⟨fun q => absurd q (by decide), fun _ => ⟨vp04, fun v6 e6 => by rw [e6]; exact m64 _ u3 _ Φ w2 hp⟩⟩
      · rw [if_neg (fun z => q (e11.trans z))] at hZ; subst hZ
        exact cmM_flag u1 2 0 _ ⟨fun q => absurd q (by decide), fun _ => ⟨vp04, fun v6 e6 => by rw [e6]; exact m64 _ u3 _ Φ w2 hp⟩⟩
  · have hr : by8 (v &&& (u1.2.2 2 0 ^^^ -1)) := by8_andl hv _
    obtain ⟨b3, u3, w1, w2, hR4, hs4⟩ := hR3.write hg hat hr
    refine ⟨_, nI T, u3, fun Φ hp => c61_0 k1 hc ht (c108_2 (by decide) ⟨fun q => absurd q hmc, fun _ => r1 _ ?_⟩), fun Φ hp => k2 _ (r2 _ ⟨vp04, fun v11 e11 => ?_⟩), hR4.mono (by omega), rfl, nIT h1 h2⟩
    · unfold wp_X5_changed
      refine ⟨fun q => absurd q (by decide), fun q => absurd q (by decide), fun q => absurd q (by decide), fun q => absurd q (by decide), fun q => absurd q (by decide), fun q => absurd q (by decide), fun q => absurd q (by decide), fun _ => ⟨fun q => ?_, fun q => ?_⟩, fun q => absurd q (by decide), fun q => absurd rfl q.2.2.2.2.2.2.2.1⟩
      · have q : s.1 0 &&& v = 0 := q
        rw [show s.1 0 = u1.2.2 2 0 from e0] at q
        rw [if_pos q] at hZ; subst hZ
        refine cmC_mark _ 2 1 _ ?_
        show wp_X0_write _ at_ (v &&& (s.1 0 ^^^ -1)) _
        rw [show s.1 0 = u1.2.2 2 0 from e0]
        exact w1 _ hp
      · have q : ¬ s.1 0 &&& v = 0 := q
        rw [show s.1 0 = u1.2.2 2 0 from e0] at q
        rw [if_neg q] at hZ; subst hZ
        refine cmC_mark _ 2 0 _ ?_
        show wp_X0_write _ at_ (v &&& (s.1 0 ^^^ -1)) _
        rw [show s.1 0 = u1.2.2 2 0 from e0]
        exact w1 _ hp
    · have e11 : v11 = u1.2.2 2 0 &&& v := e11
      refine ⟨fun q => ?_, fun q => ?_⟩
      · rw [if_pos (e11.symm.trans q)] at hZ; subst hZ
        exact cmM_flag u1 2 1 _ ⟨fun _ => ⟨vp04, fun v5 e5 => by rw [e5]; exact m64 _ u3 _ Φ w2 hp⟩, fun q => absurd rfl q⟩
      · rw [if_neg (fun z => q (e11.trans z))] at hZ; subst hZ
        exact cmM_flag u1 2 0 _ ⟨fun _ => ⟨vp04, fun v5 e5 => by rw [e5]; exact m64 _ u3 _ Φ w2 hp⟩, fun q => absurd rfl q⟩
/-- RMB, SMB -/
theorem ins_rmb {K : Kp} {g : Nat} (hg : g < 2 ^ 30) {s : S_Proc} {u : S_Model} (h : RR K g s u) {c o bit : Int32} (ho : by8 o) (eo : u.1 9 = o) (hc : vp_in c 256) (ht : tab 2 c.toNatClampNeg = nI 5) (hbit : (1 : Int32) <<< (((c >>> ((4 : Int32) &&& 31)) &&& 7) &&& 31) = bit) (h15 : ¬ c &&& 15 = 15) (h127 : c ≤ 127) : InsOK K g s c 40 4 o (wp_X9_single u c) := by
  have ka : Cm2 (wp_X5_addressOf (sP s 14 0) 4 o) o (sP s 14 0) := fun Φ hp => by simp [wp_X5_addressOf]; exact hp
  have hR1 : RR K g (sP (sP s 14 0) 13 (nI 5)) u := (h.c14 0).c13 _
  obtain ⟨v, b1, u1, hv, r1, r2, hR2, hs1⟩ := hR1.read ho.wd
  obtain ⟨b3, u3, w1, w2, hR4, hs4⟩ := hR2.write hg ho.wd (by8_andl hv (bit ^^^ -1))
  refine ⟨_, nI 5, u3, fun Φ hp => c61_0 ka hc ht (c108_2 (by decide) ⟨fun q => absurd q (by decide), fun _ => r1 _ ?_⟩), fun Φ hp => ?_, hR4.mono (by omega), rfl, nIT (by omega) (by omega)⟩
  · unfold wp_X5_changed
    refine ⟨fun q => absurd q (by decide), fun q => absurd q (by decide), fun q => absurd q (by decide), fun q => absurd q (by decide), fun q => absurd q (by decide), fun q => absurd q (by decide), fun q => absurd q (by decide), fun q => absurd q (by decide), fun _ v29 e29 => ?_, fun q => absurd rfl q.2.2.2.2.2.2.2.2⟩
    rw [e29, hbit]
    exact w1 _ hp
  · intro v13 e13
    refine ⟨fun _ => ?_, fun q => absurd h127 q⟩
    rw [e13, hbit]
    unfold wp_X9_single_20
    rw [eo]
    refine r2 _ ⟨fun q => absurd q h15, fun _ => ⟨fun _ => ?_, fun q => absurd rfl q⟩⟩
    rw [hs1.1.2.2.2.2.2.2.1, eo]
    exact w2 _ hp
theorem ins_smb {K : Kp} {g : Nat} (hg : g < 2 ^ 30) {s : S_Proc} {u : S_Model} (h : RR K g s u) {c o bit : Int32} (ho : by8 o) (eo : u.1 9 = o) (hc : vp_in c 256) (ht : tab 2 c.toNatClampNeg = nI 5) (hbit : (1 : Int32) <<< (((c >>> ((4 : Int32) &&& 31)) &&& 7) &&& 31) = bit) (hb8 : by8 bit) (h15 : ¬ c &&& 15 = 15) (h127 : ¬ c ≤ 127) : InsOK K g s c 41 4 o (wp_X9_single u c) := by
  have ka : Cm2 (wp_X5_addressOf (sP s 14 0) 4 o) o (sP s 14 0) := fun Φ hp => by simp [wp_X5_addressOf]; exact hp
  have hR1 : RR K g (sP (sP s 14 0) 13 (nI 5)) u := (h.c14 0).c13 _
  obtain ⟨v, b1, u1, hv, r1, r2, hR2, hs1⟩ := hR1.read ho.wd
  obtain ⟨b3, u3, w1, w2, hR4, hs4⟩ := hR2.write hg ho.wd (by8_or hv hb8)
  refine ⟨_, nI 5, u3, fun Φ hp => c61_0 ka hc ht (c108_2 (by decide) ⟨fun q => absurd q (by decide), fun _ => r1 _ ?_⟩), fun Φ hp => ?_, hR4.mono (by omega), rfl, nIT (by omega) (by omega)⟩
  · unfold wp_X5_changed
    refine ⟨fun q => absurd q (by decide), fun q => absurd q (by decide), fun q => absurd q (by decide), fun q => absurd q (by decide), fun q => absurd q (by decide), fun q => absurd q (by decide), fun q => absurd q (by decide), fun q => absurd q (by decide), fun q => absurd q (by decide), fun _ => ?_⟩
    rw [hbit]
    exact w1 _ hp
  · intro v13 e13
    refine ⟨fun q => absurd q h127, fun _ => ?_⟩
    rw [e13, hbit]
    unfold wp_X9_single_20
    rw [eo]
    refine r2 _ ⟨fun q => absurd q h15, fun _ => ⟨fun q => absurd q (by decide), fun _ => ?_⟩⟩
    rw [hs1.1.2.2.2.2.2.2.1, eo]
    exact w2 _ hp
