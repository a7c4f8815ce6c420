theorem c108_3 {s : S_Proc} {c op mc o at_ : Int32} {Φ : S_Proc → Prop} (hop : op >>> ((4 : Int32) &&& 31) = 3) (h : wp_X5_move s op Φ) : wp_X5_carryOut_108 s c op mc o at_ Φ := by
  unfold wp_X5_carryOut_108
  exact ⟨fun q => absurd (hop.symm.trans q) (by decide), fun q => absurd (hop.symm.trans q) (by decide), fun q => absurd (hop.symm.trans q) (by decide), fun _ => h, fun q => absurd (hop.symm.trans q) (by decide), fun q => absurd (hop.symm.trans q) (by decide), fun q => absurd (hop.symm.trans q) (by decide), fun q => absurd (hop.symm.trans q) (by decide), fun q => absurd hop q.2.2.2.1⟩
theorem c108_4 {s : S_Proc} {c op mc o at_ : Int32} {Φ : S_Proc → Prop} (hop : op >>> ((4 : Int32) &&& 31) = 4) (h : wp_X5_changeState s op Φ) : wp_X5_carryOut_108 s c op mc o at_ Φ := by
  unfold wp_X5_carryOut_108
  exact ⟨fun q => absurd (hop.symm.trans q) (by decide), fun q => absurd (hop.symm.trans q) (by decide), fun q => absurd (hop.symm.trans q) (by decide), fun q => absurd (hop.symm.trans q) (by decide), fun _ => h, fun q => absurd (hop.symm.trans q) (by decide), fun q => absurd (hop.symm.trans q) (by decide), fun q => absurd (hop.symm.trans q) (by decide), fun q => absurd hop q.2.2.2.2.1⟩
theorem c108_5 {s : S_Proc} {c op mc o at_ : Int32} {Φ : S_Proc → Prop} (hop : op >>> ((4 : Int32) &&& 31) = 5) (h : wp_X5_pushOrPull s op Φ) : wp_X5_carryOut_108 s c op mc o at_ Φ := by
  unfold wp_X5_carryOut_108
  exact ⟨fun q => absurd (hop.symm.trans q) (by decide), fun q => absurd (hop.symm.trans q) (by decide), fun q => absurd (hop.symm.trans q) (by decide), fun q => absurd (hop.symm.trans q) (by decide), fun q => absurd (hop.symm.trans q) (by decide), fun _ => h, fun q => absurd (hop.symm.trans q) (by decide), fun q => absurd (hop.symm.trans q) (by decide), fun q => absurd hop q.2.2.2.2.2.1⟩
theorem c108_6 {s : S_Proc} {c op mc o at_ : Int32} {Φ : S_Proc → Prop} (hop : op >>> ((4 : Int32) &&& 31) = 6) (h : wp_X5_branch s op ((c >>> ((4 : Int32) &&& 31)) &&& 7) o Φ) : wp_X5_carryOut_108 s c op mc o at_ Φ := by
  unfold wp_X5_carryOut_108
  exact ⟨fun q => absurd (hop.symm.trans q) (by decide), fun q => absurd (hop.symm.trans q) (by decide), fun q => absurd (hop.symm.trans q) (by decide), fun q => absurd (hop.symm.trans q) (by decide), fun q => absurd (hop.symm.trans q) (by decide), fun q => absurd (hop.symm.trans q) (by decide), fun _ v20 e20 => by rw [e20]; exact h, fun q => absurd (hop.symm.trans q) (by decide), fun q => absurd hop q.2.2.2.2.2.2.1⟩
theorem c108_7 {s : S_Proc} {c op mc o at_ : Int32} {Φ : S_Proc → Prop} (hop : op >>> ((4 : Int32) &&& 31) = 7) (h : wp_X5_jump s op at_ Φ) : wp_X5_carryOut_108 s c op mc o at_ Φ := by
  unfold wp_X5_carryOut_108
  exact ⟨fun q => absurd (hop.symm.trans q) (by decide), fun q => absurd (hop.symm.trans q) (by decide), fun q => absurd (hop.symm.trans q) (by decide), fun q => absurd (hop.symm.trans q) (by decide), fun q => absurd (hop.symm.trans q) (by decide), fun q => absurd (hop.symm.trans q) (by decide), fun q => absurd (hop.symm.trans q) (by decide), fun _ => h, fun q => absurd hop q.2.2.2.2.2.2.2⟩
/-- modes in which nothing is looked up -/
def Plain (m : Int32) : Prop := ¬ m = 5 ∧ ¬ m = 6 ∧ ¬ m = 7 ∧ ¬ m = 8 ∧ ¬ m = 9 ∧ ¬ m = 11 ∧ ¬ m = 12
theorem c61_p {s : S_Proc} {c op mc o : Int32} {T : Nat} {Φ : S_Proc → Prop} (hm : Plain mc) (hc : vp_in c 256) (ht : tab 2 c.toNatClampNeg = nI T) (h : wp_X5_carryOut_108 (sP (sP s 14 0) 13 (nI T)) c op mc o o Φ) : wp_X5_carryOut_61 s c op mc o Φ := by
  have ka : Cm2 (wp_X5_addressOf (sP s 14 0) mc o) o (sP s 14 0) := fun Φ hp => ⟨fun q => absurd q hm.1, fun q => absurd q hm.2.1, fun q => absurd q hm.2.2.1, fun q => absurd q hm.2.2.2.1, fun q => absurd q hm.2.2.2.2.1, fun q => absurd q hm.2.2.2.2.2.1, fun q => absurd q hm.2.2.2.2.2.2, fun _ => hp⟩
  exact c61_0 ka hc ht h
/-- the state with which an operation begins -/
theorem RR.beg {K : Kp} {g : Nat} {s : S_Proc} {u : S_Model} (h : RR K g s u) (T : Nat) : RR K g (sP (sP s 14 0) 13 (nI T)) u := (h.c14 0).c13 _
theorem ins_inx {K : Kp} {g : Nat} {s : S_Proc} {u : S_Model} (h : RR K g s u) {c o : Int32} (hc : vp_in c 256) (ht : tab 2 c.toNatClampNeg = nI 2) : InsOK K g s c 48 0 o (wp_X9_counted u 1 1) := by
  have hR := ((h.beg 2).shown (by8_and (u.2.2 2 1 + 1))).r1 (by8_and (u.2.2 2 1 + 1))
  refine ⟨_, nI 2, _, fun Φ hp => c61_p ⟨by decide, by decide, by decide, by decide, by decide, by decide, by decide⟩ hc ht (c108_3 (by decide) ?_), fun Φ hp => ⟨vp14, fun v1 e1 => ?_⟩, hR.mono (by omega), rfl, nIT (by omega) (by omega)⟩
  · simp [wp_X5_move]
    rw [show (upd (upd s.1 14 0) 13 (nI 2)) 1 = u.2.2 2 1 from h.1.1.2.1]
    exact cmC_shown _ _ _ hp
  · rw [e1]
    exact cmM_tested _ _ _ ⟨vp14, hp⟩
theorem ins_iny {K : Kp} {g : Nat} {s : S_Proc} {u : S_Model} (h : RR K g s u) {c o : Int32} (hc : vp_in c 256) (ht : tab 2 c.toNatClampNeg = nI 2) : InsOK K g s c 49 0 o (wp_X9_counted u 2 1) := by
  have hR := ((h.beg 2).shown (by8_and (u.2.2 2 2 + 1))).r2 (by8_and (u.2.2 2 2 + 1))
  refine ⟨_, nI 2, _, fun Φ hp => c61_p ⟨by decide, by decide, by decide, by decide, by decide, by decide, by decide⟩ hc ht (c108_3 (by decide) ?_), fun Φ hp => ⟨vp24, fun v1 e1 => ?_⟩, hR.mono (by omega), rfl, nIT (by omega) (by omega)⟩
  · simp [wp_X5_move]
    rw [show (upd (upd s.1 14 0) 13 (nI 2)) 2 = u.2.2 2 2 from h.1.1.2.2.1]
    exact cmC_shown _ _ _ hp
  · rw [e1]
    exact cmM_tested _ _ _ ⟨vp24, hp⟩
theorem ins_dex {K : Kp} {g : Nat} {s : S_Proc} {u : S_Model} (h : RR K g s u) {c o : Int32} (hc : vp_in c 256) (ht : tab 2 c.toNatClampNeg = nI 2) : InsOK K g s c 50 0 o (wp_X9_counted u 1 (-1)) := by
  have hR := ((h.beg 2).shown (by8_and (u.2.2 2 1 - 1))).r1 (by8_and (u.2.2 2 1 - 1))
  refine ⟨_, nI 2, _, fun Φ hp => c61_p ⟨by decide, by decide, by decide, by decide, by decide, by decide, by decide⟩ hc ht (c108_3 (by decide) ?_), fun Φ hp => ⟨vp14, fun v1 e1 => ?_⟩, hR.mono (by omega), rfl, nIT (by omega) (by omega)⟩
  · simp [wp_X5_move]
    rw [show (upd (upd s.1 14 0) 13 (nI 2)) 1 = u.2.2 2 1 from h.1.1.2.1]
    exact cmC_shown _ _ _ hp
  · rw [e1]
    rw [show u.2.2 2 1 - 1 = u.2.2 2 1 + -1 by grind] at hp
    exact cmM_tested _ _ _ ⟨vp14, hp⟩
theorem ins_dey {K : Kp} {g : Nat} {s : S_Proc} {u : S_Model} (h : RR K g s u) {c o : Int32} (hc : vp_in c 256) (ht : tab 2 c.toNatClampNeg = nI 2) : InsOK K g s c 51 0 o (wp_X9_counted u 2 (-1)) := by
  have hR := ((h.beg 2).shown (by8_and (u.2.2 2 2 - 1))).r2 (by8_and (u.2.2 2 2 - 1))
  refine ⟨_, nI 2, _, fun Φ hp => c61_p ⟨by decide, by decide, by decide, by decide, by decide, by decide, by decide⟩ hc ht (c108_3 (by decide) ?_), fun Φ hp => ⟨vp24, fun v1 e1 => ?_⟩, hR.mono (by omega), rfl, nIT (by omega) (by omega)⟩
  · simp [wp_X5_move]
    rw [show (upd (upd s.1 14 0) 13 (nI 2)) 2 = u.2.2 2 2 from h.1.1.2.2.1]
    exact cmC_shown _ _ _ hp
  · rw [e1]
    rw [show u.2.2 2 2 - 1 = u.2.2 2 2 + -1 by grind] at hp
    exact cmM_tested _ _ _ ⟨vp24, hp⟩
theorem ins_tax {K : Kp} {g : Nat} {s : S_Proc} {u : S_Model} (h : RR K g s u) {c o : Int32} (hc : vp_in c 256) (ht : tab 2 c.toNatClampNeg = nI 2) : InsOK K g s c 52 0 o (wp_X9_moved u 1 0) := by
  have b8 : by8 (u.2.2 2 0) := h.1.2.1.1
  have hR := ((h.beg 2).shown b8).r1 b8
  refine ⟨_, nI 2, _, fun Φ hp => c61_p ⟨by decide, by decide, by decide, by decide, by decide, by decide, by decide⟩ hc ht (c108_3 (by decide) ?_), fun Φ hp => ⟨vp04, cmM_tested _ _ _ ⟨vp14, hp⟩⟩, hR.mono (by omega), rfl, nIT (by omega) (by omega)⟩
  simp [wp_X5_move]
  rw [show (upd (upd s.1 14 0) 13 (nI 2)) 0 = u.2.2 2 0 from h.1.1.1]
  exact ld_c b8 _ hp
theorem ins_tay {K : Kp} {g : Nat} {s : S_Proc} {u : S_Model} (h : RR K g s u) {c o : Int32} (hc : vp_in c 256) (ht : tab 2 c.toNatClampNeg = nI 2) : InsOK K g s c 53 0 o (wp_X9_moved u 2 0) := by
  have b8 : by8 (u.2.2 2 0) := h.1.2.1.1
  have hR := ((h.beg 2).shown b8).r2 b8
  refine ⟨_, nI 2, _, fun Φ hp => c61_p ⟨by decide, by decide, by decide, by decide, by decide, by decide, by decide⟩ hc ht (c108_3 (by decide) ?_), fun Φ hp => ⟨vp04, cmM_tested _ _ _ ⟨vp24, hp⟩⟩, hR.mono (by omega), rfl, nIT (by omega) (by omega)⟩
  simp [wp_X5_move]
  rw [show (upd (upd s.1 14 0) 13 (nI 2)) 0 = u.2.2 2 0 from h.1.1.1]
  exact ld_c b8 _ hp
theorem ins_txa {K : Kp} {g : Nat} {s : S_Proc} {u : S_Model} (h : RR K g s u) {c o : Int32} (hc : vp_in c 256) (ht : tab 2 c.toNatClampNeg = nI 2) : InsOK K g s c 54 0 o (wp_X9_moved u 0 1) := by
  have b8 : by8 (u.2.2 2 1) := h.1.2.1.2.1
  have hR := ((h.beg 2).shown b8).r0 b8
  refine ⟨_, nI 2, _, fun Φ hp => c61_p ⟨by decide, by decide, by decide, by decide, by decide, by decide, by decide⟩ hc ht (c108_3 (by decide) ?_), fun Φ hp => ⟨vp14, cmM_tested _ _ _ ⟨vp04, hp⟩⟩, hR.mono (by omega), rfl, nIT (by omega) (by omega)⟩
  simp [wp_X5_move]
  rw [show (upd (upd s.1 14 0) 13 (nI 2)) 1 = u.2.2 2 1 from h.1.1.2.1]
  exact ld_c b8 _ hp
theorem ins_tya {K : Kp} {g : Nat} {s : S_Proc} {u : S_Model} (h : RR K g s u) {c o : Int32} (hc : vp_in c 256) (ht : tab 2 c.toNatClampNeg = nI 2) : InsOK K g s c 55 0 o (wp_X9_moved u 0 2) := by
  have b8 : by8 (u.2.2 2 2) := h.1.2.1.2.2.1
  have hR := ((h.beg 2).shown b8).r0 b8
  refine ⟨_, nI 2, _, fun Φ hp => c61_p ⟨by decide, by decide, by decide, by decide, by decide, by decide, by decide⟩ hc ht (c108_3 (by decide) ?_), fun Φ hp => ⟨vp24, cmM_tested _ _ _ ⟨vp04, hp⟩⟩, hR.mono (by omega), rfl, nIT (by omega) (by omega)⟩
  simp [wp_X5_move]
  rw [show (upd (upd s.1 14 0) 13 (nI 2)) 2 = u.2.2 2 2 from h.1.1.2.2.1]
  exact ld_c b8 _ hp
theorem ins_tsx {K : Kp} {g : Nat} {s : S_Proc} {u : S_Model} (h : RR K g s u) {c o : Int32} (hc : vp_in c 256) (ht : tab 2 c.toNatClampNeg = nI 2) : InsOK K g s c 56 0 o (wp_X9_moved u 1 3) := by
  have b8 : by8 (u.2.2 2 3) := h.1.2.1.2.2.2.1
  have hR := ((h.beg 2).shown b8).r1 b8
  refine ⟨_, nI 2, _, fun Φ hp => c61_p ⟨by decide, by decide, by decide, by decide, by decide, by decide, by decide⟩ hc ht (c108_3 (by decide) ?_), fun Φ hp => ⟨vp34, cmM_tested _ _ _ ⟨vp14, hp⟩⟩, hR.mono (by omega), rfl, nIT (by omega) (by omega)⟩
  simp [wp_X5_move]
  rw [show (upd (upd s.1 14 0) 13 (nI 2)) 3 = u.2.2 2 3 from h.1.1.2.2.2.1]
  exact ld_c b8 _ hp
theorem ins_txs {K : Kp} {g : Nat} {s : S_Proc} {u : S_Model} (h : RR K g s u) {c o : Int32} (hc : vp_in c 256) (ht : tab 2 c.toNatClampNeg = nI 2) : InsOK K g s c 57 0 o (fun Φ => vp_in 1 4 ∧ (vp_in 3 4 ∧ Φ 2 (u.1, u.2.1, va_up u.2.2 2 (upd (u.2.2 2) (3 : Int32).toNatClampNeg (u.2.2 2 (1 : Int32).toNatClampNeg))))) := by
  have b8 : by8 (u.2.2 2 1) := h.1.2.1.2.1
  have hR := (h.beg 2).r3 b8
  refine ⟨_, nI 2, _, fun Φ hp => c61_p ⟨by decide, by decide, by decide, by decide, by decide, by decide, by decide⟩ hc ht (c108_3 (by decide) ?_), fun Φ hp => ⟨vp14, vp34, hp⟩, hR.mono (by omega), rfl, nIT (by omega) (by omega)⟩
  simp [wp_X5_move]
  rw [show (upd (upd s.1 14 0) 13 (nI 2)) 1 = u.2.2 2 1 from h.1.1.2.1]
  exact hp
theorem ins_clc {K : Kp} {g : Nat} {s : S_Proc} {u : S_Model} (h : RR K g s u) {c o : Int32} (hc : vp_in c 256) (ht : tab 2 c.toNatClampNeg = nI 2) : InsOK K g s c 64 0 o (wp_X9_flagged u 1 0) := by
  have hR := (h.beg 2).mark 1 0 (by decide) (by8_of (n := 1) (by omega))
  exact ⟨_, nI 2, _, fun Φ hp => c61_p ⟨by decide, by decide, by decide, by decide, by decide, by decide, by decide⟩ hc ht (c108_4 (by decide) (by simp [wp_X5_changeState]; exact cmC_mark _ 1 0 _ hp)), fun Φ hp => cmM_flag u 1 0 _ hp, hR.mono (by omega), rfl, nIT (by omega) (by omega)⟩
theorem ins_sec {K : Kp} {g : Nat} {s : S_Proc} {u : S_Model} (h : RR K g s u) {c o : Int32} (hc : vp_in c 256) (ht : tab 2 c.toNatClampNeg = nI 2) : InsOK K g s c 65 0 o (wp_X9_flagged u 1 1) := by
  have hR := (h.beg 2).mark 1 1 (by decide) (by8_of (n := 1) (by omega))
  exact ⟨_, nI 2, _, fun Φ hp => c61_p ⟨by decide, by decide, by decide, by decide, by decide, by decide, by decide⟩ hc ht (c108_4 (by decide) (by simp [wp_X5_changeState]; exact cmC_mark _ 1 1 _ hp)), fun Φ hp => cmM_flag u 1 1 _ hp, hR.mono (by omega), rfl, nIT (by omega) (by omega)⟩
theorem ins_cli {K : Kp} {g : Nat} {s : S_Proc} {u : S_Model} (h : RR K g s u) {c o : Int32} (hc : vp_in c 256) (ht : tab 2 c.toNatClampNeg = nI 2) : InsOK K g s c 66 0 o (wp_X9_flagged u 4 0) := by
  have hR := (h.beg 2).mark 4 0 (by decide) (by8_of (n := 4) (by omega))
  exact ⟨_, nI 2, _, fun Φ hp => c61_p ⟨by decide, by decide, by decide, by decide, by decide, by decide, by decide⟩ hc ht (c108_4 (by decide) (by simp [wp_X5_changeState]; exact cmC_mark _ 4 0 _ hp)), fun Φ hp => cmM_flag u 4 0 _ hp, hR.mono (by omega), rfl, nIT (by omega) (by omega)⟩
theorem ins_sei {K : Kp} {g : Nat} {s : S_Proc} {u : S_Model} (h : RR K g s u) {c o : Int32} (hc : vp_in c 256) (ht : tab 2 c.toNatClampNeg = nI 2) : InsOK K g s c 67 0 o (wp_X9_flagged u 4 1) := by
  have hR := (h.beg 2).mark 4 1 (by decide) (by8_of (n := 4) (by omega))
  exact ⟨_, nI 2, _, fun Φ hp => c61_p ⟨by decide, by decide, by decide, by decide, by decide, by decide, by decide⟩ hc ht (c108_4 (by decide) (by simp [wp_X5_changeState]; exact cmC_mark _ 4 1 _ hp)), fun Φ hp => cmM_flag u 4 1 _ hp, hR.mono (by omega), rfl, nIT (by omega) (by omega)⟩
theorem ins_clv {K : Kp} {g : Nat} {s : S_Proc} {u : S_Model} (h : RR K g s u) {c o : Int32} (hc : vp_in c 256) (ht : tab 2 c.toNatClampNeg = nI 2) : InsOK K g s c 68 0 o (wp_X9_flagged u 64 0) := by
  have hR := (h.beg 2).mark 64 0 (by decide) (by8_of (n := 64) (by omega))
  exact ⟨_, nI 2, _, fun Φ hp => c61_p ⟨by decide, by decide, by decide, by decide, by decide, by decide, by decide⟩ hc ht (c108_4 (by decide) (by simp [wp_X5_changeState]; exact cmC_mark _ 64 0 _ hp)), fun Φ hp => cmM_flag u 64 0 _ hp, hR.mono (by omega), rfl, nIT (by omega) (by omega)⟩
theorem ins_cld {K : Kp} {g : Nat} {s : S_Proc} {u : S_Model} (h : RR K g s u) {c o : Int32} (hc : vp_in c 256) (ht : tab 2 c.toNatClampNeg = nI 2) : InsOK K g s c 69 0 o (wp_X9_flagged u 8 0) := by
  have hR := (h.beg 2).mark 8 0 (by decide) (by8_of (n := 8) (by omega))
  exact ⟨_, nI 2, _, fun Φ hp => c61_p ⟨by decide, by decide, by decide, by decide, by decide, by decide, by decide⟩ hc ht (c108_4 (by decide) (by simp [wp_X5_changeState]; exact cmC_mark _ 8 0 _ hp)), fun Φ hp => cmM_flag u 8 0 _ hp, hR.mono (by omega), rfl, nIT (by omega) (by omega)⟩
theorem ins_sed {K : Kp} {g : Nat} {s : S_Proc} {u : S_Model} (h : RR K g s u) {c o : Int32} (hc : vp_in c 256) (ht : tab 2 c.toNatClampNeg = nI 2) : InsOK K g s c 70 0 o (wp_X9_flagged u 8 1) := by
  have hR := (h.beg 2).mark 8 1 (by decide) (by8_of (n := 8) (by omega))
  exact ⟨_, nI 2, _, fun Φ hp => c61_p ⟨by decide, by decide, by decide, by decide, by decide, by decide, by decide⟩ hc ht (c108_4 (by decide) (by simp [wp_X5_changeState]; exact cmC_mark _ 8 1 _ hp)), fun Φ hp => cmM_flag u 8 1 _ hp, hR.mono (by omega), rfl, nIT (by omega) (by omega)⟩
/-- nothing -/
theorem ins_nop {K : Kp} {g : Nat} {s : S_Proc} {u : S_Model} (h : RR K g s u) {c m o : Int32} (hm : Plain m) {T : Nat} (hc : vp_in c 256) (ht : tab 2 c.toNatClampNeg = nI T) (h1 : 1 ≤ T) (h2 : T ≤ 8) : InsOK K g s c 71 m o (fun Φ => Φ (nI T) u) :=
  ⟨_, nI T, u, fun Φ hp => c61_p hm hc ht (c108_4 (by decide) (by simp [wp_X5_changeState]; exact hp)), fun Φ hp => hp, (h.beg T).mono (by omega), rfl, nIT h1 h2⟩
theorem bl_ok {x : Int32} (h : bl1 x) : narrow .boolean (.int x) = .int x ∧ fits .boolean (.int x) = true := by
  rcases h with rfl | rfl
  · exact ⟨rfl, rfl⟩
  · exact ⟨rfl, rfl⟩
/-- what halts leaves: waits and stops as they were, or set -/
theorem cm_halts (u : S_Model) (hw : bl1 (u.1 6)) (hs : bl1 (u.1 7)) (c : Int32) : Cm2 (wp_X9_halts u c) (if c = 203 then 3 else if c = 219 then 3 else 1) (mI (mI u 6 (if c = 203 then 1 else u.1 6)) 7 (if c = 219 then 1 else u.1 7)) := by
  intro Φ hp
  have h43 : ∀ (w s1 : Int32), w = (if c = 203 then 1 else u.1 6) → s1 = (if c = 219 then 1 else u.1 7) → bl1 s1 → wp_X9_halts_43 (mI u 6 w) c s1 Φ := by
    intro w s1 ew es hb
    refine ⟨bl_ok hb, ?_⟩
    rw [← ew, ← es] at hp
    refine ⟨fun q => ?_, fun q => ⟨fun q2 => ?_, fun q2 => ?_⟩⟩
    · rw [if_pos q] at hp; exact hp
    · rw [if_neg q, if_pos q2] at hp; exact hp
    · rw [if_neg q, if_neg q2] at hp; exact hp
  have h20 : ∀ w : Int32, w = (if c = 203 then 1 else u.1 6) → bl1 w → wp_X9_halts_20 u c w Φ := by
    intro w ew hb
    refine ⟨bl_ok hb, ⟨fun q => ⟨fun q2 => ?_, fun q2 => ?_⟩, fun q => ?_⟩⟩
    · exact h43 w 1 ew (by rw [if_pos q2]) (Or.inr rfl)
    · exact h43 w 0 ew (by rw [if_neg q2]; exact q.symm) (Or.inl rfl)
    · refine h43 w 1 ew ?_ (Or.inr rfl)
      split
      · rfl
      · exact (hs.resolve_left q).symm
  refine ⟨fun q => ⟨fun q2 => ?_, fun q2 => ?_⟩, fun q => ?_⟩
  · exact h20 1 (by rw [if_pos q2]) (Or.inr rfl)
  · exact h20 0 (by rw [if_neg q2]; exact q.symm) (Or.inl rfl)
  · refine h20 1 ?_ (Or.inr rfl)
    split
    · rfl
    · exact (hw.resolve_left q).symm
theorem ins_nop1 {K : Kp} {g : Nat} {s : S_Proc} {u : S_Model} (h : RR K g s u) {c o : Int32} (hc : vp_in c 256) (ht : tab 2 c.toNatClampNeg = nI 1) (n1 : ¬ c = 203) (n2 : ¬ c = 219) : InsOK K g s c 71 0 o (wp_X9_halts u c) := by
  have hm := cm_halts u h.1.2.1.2.2.2.2.2.2.1 h.1.2.1.2.2.2.2.2.2.2.1 c
  rw [if_neg n1, if_neg n2, if_neg n1, if_neg n2] at hm
  have hR : RR K g (sP (sP s 14 0) 13 (nI 1)) (mI (mI u 6 (u.1 6)) 7 (u.1 7)) := h.beg 1
  exact ⟨_, nI 1, _, fun Φ hp => c61_p ⟨by decide, by decide, by decide, by decide, by decide, by decide, by decide⟩ hc ht (c108_4 (by decide) (by simp [wp_X5_changeState]; exact hp)), hm, hR.mono (by omega), rfl, nIT (by omega) (by omega)⟩
theorem ins_wai {K : Kp} {g : Nat} {s : S_Proc} {u : S_Model} (h : RR K g s u) {o : Int32} (hc : vp_in 203 256) (ht : tab 2 (203 : Int32).toNatClampNeg = nI 3) : InsOK K g s 203 72 0 o (wp_X9_halts u 203) := by
  have hm := cm_halts u h.1.2.1.2.2.2.2.2.2.1 h.1.2.1.2.2.2.2.2.2.2.1 203
  have hR : RR K g (sP (sP (sP s 14 0) 13 (nI 3)) 6 1) (mI (mI u 6 1) 7 (u.1 7)) := (h.beg 3).wai (Or.inr rfl)
  exact ⟨_, nI 3, _, fun Φ hp => c61_p ⟨by decide, by decide, by decide, by decide, by decide, by decide, by decide⟩ hc ht (c108_4 (by decide) (by simp [wp_X5_changeState]; exact hp)), hm, hR.mono (by omega), rfl, nIT (by omega) (by omega)⟩
theorem ins_stp {K : Kp} {g : Nat} {s : S_Proc} {u : S_Model} (h : RR K g s u) {o : Int32} (hc : vp_in 219 256) (ht : tab 2 (219 : Int32).toNatClampNeg = nI 3) : InsOK K g s 219 73 0 o (wp_X9_halts u 219) := by
  have hm := cm_halts u h.1.2.1.2.2.2.2.2.2.1 h.1.2.1.2.2.2.2.2.2.2.1 219
  have hR : RR K g (sP (sP (sP s 14 0) 13 (nI 3)) 7 1) (mI (mI u 6 (u.1 6)) 7 1) := (h.beg 3).stp (Or.inr rfl)
  exact ⟨_, nI 3, _, fun Φ hp => c61_p ⟨by decide, by decide, by decide, by decide, by decide, by decide, by decide⟩ hc ht (c108_4 (by decide) (by simp [wp_X5_changeState]; exact hp)), hm, hR.mono (by omega), rfl, nIT (by omega) (by omega)⟩
/-! the stack -/
theorem or48 (x : Int32) : (x ||| 48) ||| 48 = x ||| 48 := by
  rw [i32_or_assoc]; rfl
theorem ins_pha {K : Kp} {g : Nat} (hg : g < 2 ^ 30) {s : S_Proc} {u : S_Model} (h : RR K g s u) {c o : Int32} (hc : vp_in c 256) (ht : tab 2 c.toNatClampNeg = nI 3) : InsOK K g s c 80 0 o (wp_X9_stacks u 0 1) := by
  obtain ⟨s', u', k1, k2, k3, k4, -⟩ := (h.beg 3).push hg (v := u.2.2 2 0) h.1.2.1.1
  refine ⟨s', nI 3, u', fun Φ hp => c61_p ⟨by decide, by decide, by decide, by decide, by decide, by decide, by decide⟩ hc ht (c108_5 (by decide) ?_), fun Φ hp => ⟨fun q => absurd q (by decide), fun _ => ⟨fun _ => ⟨vp04, k2 _ hp⟩, fun q => absurd (by decide) q⟩⟩, k3.mono (by omega), by rw [k4]; rfl, nIT (by omega) (by omega)⟩
  simp [wp_X5_pushOrPull]
  rw [show (upd (upd s.1 14 0) 13 (nI 3)) 0 = u.2.2 2 0 from h.1.1.1]
  exact k1 _ hp
theorem ins_phx {K : Kp} {g : Nat} (hg : g < 2 ^ 30) {s : S_Proc} {u : S_Model} (h : RR K g s u) {c o : Int32} (hc : vp_in c 256) (ht : tab 2 c.toNatClampNeg = nI 3) : InsOK K g s c 81 0 o (wp_X9_stacks u 1 1) := by
  obtain ⟨s', u', k1, k2, k3, k4, -⟩ := (h.beg 3).push hg (v := u.2.2 2 1) h.1.2.1.2.1
  refine ⟨s', nI 3, u', fun Φ hp => c61_p ⟨by decide, by decide, by decide, by decide, by decide, by decide, by decide⟩ hc ht (c108_5 (by decide) ?_), fun Φ hp => ⟨fun q => absurd q (by decide), fun _ => ⟨fun _ => ⟨vp14, k2 _ hp⟩, fun q => absurd (by decide) q⟩⟩, k3.mono (by omega), by rw [k4]; rfl, nIT (by omega) (by omega)⟩
  simp [wp_X5_pushOrPull]
  rw [show (upd (upd s.1 14 0) 13 (nI 3)) 1 = u.2.2 2 1 from h.1.1.2.1]
  exact k1 _ hp
theorem ins_phy {K : Kp} {g : Nat} (hg : g < 2 ^ 30) {s : S_Proc} {u : S_Model} (h : RR K g s u) {c o : Int32} (hc : vp_in c 256) (ht : tab 2 c.toNatClampNeg = nI 3) : InsOK K g s c 82 0 o (wp_X9_stacks u 2 1) := by
  obtain ⟨s', u', k1, k2, k3, k4, -⟩ := (h.beg 3).push hg (v := u.2.2 2 2) h.1.2.1.2.2.1
  refine ⟨s', nI 3, u', fun Φ hp => c61_p ⟨by decide, by decide, by decide, by decide, by decide, by decide, by decide⟩ hc ht (c108_5 (by decide) ?_), fun Φ hp => ⟨fun q => absurd q (by decide), fun _ => ⟨fun _ => ⟨vp24, k2 _ hp⟩, fun q => absurd (by decide) q⟩⟩, k3.mono (by omega), by rw [k4]; rfl, nIT (by omega) (by omega)⟩
  simp [wp_X5_pushOrPull]
  rw [show (upd (upd s.1 14 0) 13 (nI 3)) 2 = u.2.2 2 2 from h.1.1.2.2.1]
  exact k1 _ hp
theorem ins_php {K : Kp} {g : Nat} (hg : g < 2 ^ 30) {s : S_Proc} {u : S_Model} (h : RR K g s u) {c o : Int32} (hc : vp_in c 256) (ht : tab 2 c.toNatClampNeg = nI 3) : InsOK K g s c 83 0 o (wp_X9_stacks u (-1) 1) := by
  obtain ⟨s', u', k1, k2, k3, k4, -⟩ := (h.beg 3).push hg (v := u.1 3 ||| 48) (by8_or h.1.2.1.2.2.2.2.1 (by8_of (n := 48) (by omega)))
  refine ⟨s', nI 3, u', fun Φ hp => c61_p ⟨by decide, by decide, by decide, by decide, by decide, by decide, by decide⟩ hc ht (c108_5 (by decide) ?_), fun Φ hp => ⟨fun q => absurd q (by decide), fun _ => ⟨fun q => absurd q (by decide), fun _ => k2 _ hp⟩⟩, k3.mono (by omega), by rw [k4]; rfl, nIT (by omega) (by omega)⟩
  simp [wp_X5_pushOrPull]
  rw [show (upd (upd s.1 14 0) 13 (nI 3)) 4 = u.1 3 ||| 48 from h.1.1.2.2.2.2.1]
  exact k1 _ hp
theorem ins_pla {K : Kp} {g : Nat} {s : S_Proc} {u : S_Model} (h : RR K g s u) {c o : Int32} (hc : vp_in c 256) (ht : tab 2 c.toNatClampNeg = nI 4) : InsOK K g s c 84 0 o (wp_X9_stacks u 0 0) := by
  obtain ⟨v, s', u', hv, k1, k2, k3, k4, -⟩ := (h.beg 4).pull
  have hR := (k3.shown hv).r0 hv
  refine ⟨_, nI 4, _, fun Φ hp => c61_p ⟨by decide, by decide, by decide, by decide, by decide, by decide, by decide⟩ hc ht (c108_5 (by decide) ?_), fun Φ hp => ⟨fun _ => k2 _ ⟨fun _ => cmM_tested _ _ _ ⟨vp04, hp⟩, fun q => absurd (by decide) q⟩, fun q => absurd rfl q⟩, hR.mono (by omega), by show s'.1 13 = _; rw [k4]; rfl, nIT (by omega) (by omega)⟩
  simp [wp_X5_pushOrPull]
  exact k1 _ (ld_c hv _ hp)
theorem ins_plx {K : Kp} {g : Nat} {s : S_Proc} {u : S_Model} (h : RR K g s u) {c o : Int32} (hc : vp_in c 256) (ht : tab 2 c.toNatClampNeg = nI 4) : InsOK K g s c 85 0 o (wp_X9_stacks u 1 0) := by
  obtain ⟨v, s', u', hv, k1, k2, k3, k4, -⟩ := (h.beg 4).pull
  have hR := (k3.shown hv).r1 hv
  refine ⟨_, nI 4, _, fun Φ hp => c61_p ⟨by decide, by decide, by decide, by decide, by decide, by decide, by decide⟩ hc ht (c108_5 (by decide) ?_), fun Φ hp => ⟨fun _ => k2 _ ⟨fun _ => cmM_tested _ _ _ ⟨vp14, hp⟩, fun q => absurd (by decide) q⟩, fun q => absurd rfl q⟩, hR.mono (by omega), by show s'.1 13 = _; rw [k4]; rfl, nIT (by omega) (by omega)⟩
  simp [wp_X5_pushOrPull]
  exact k1 _ (ld_c hv _ hp)
theorem ins_ply {K : Kp} {g : Nat} {s : S_Proc} {u : S_Model} (h : RR K g s u) {c o : Int32} (hc : vp_in c 256) (ht : tab 2 c.toNatClampNeg = nI 4) : InsOK K g s c 86 0 o (wp_X9_stacks u 2 0) := by
  obtain ⟨v, s', u', hv, k1, k2, k3, k4, -⟩ := (h.beg 4).pull
  have hR := (k3.shown hv).r2 hv
  refine ⟨_, nI 4, _, fun Φ hp => c61_p ⟨by decide, by decide, by decide, by decide, by decide, by decide, by decide⟩ hc ht (c108_5 (by decide) ?_), fun Φ hp => ⟨fun _ => k2 _ ⟨fun _ => cmM_tested _ _ _ ⟨vp24, hp⟩, fun q => absurd (by decide) q⟩, fun q => absurd rfl q⟩, hR.mono (by omega), by show s'.1 13 = _; rw [k4]; rfl, nIT (by omega) (by omega)⟩
  simp [wp_X5_pushOrPull]
  exact k1 _ (ld_c hv _ hp)
theorem ins_plp {K : Kp} {g : Nat} {s : S_Proc} {u : S_Model} (h : RR K g s u) {c o : Int32} (hc : vp_in c 256) (ht : tab 2 c.toNatClampNeg = nI 4) : InsOK K g s c 87 0 o (wp_X9_stacks u (-1) 0) := by
  obtain ⟨v, s', u', hv, k1, k2, k3, k4, -⟩ := (h.beg 4).pull
  have hR := k3.p (x := v ||| 48) (by8_or hv (by8_of (n := 48) (by omega)))
  rw [or48] at hR
  refine ⟨_, nI 4, _, fun Φ hp => c61_p ⟨by decide, by decide, by decide, by decide, by decide, by decide, by decide⟩ hc ht (c108_5 (by decide) ?_), fun Φ hp => ⟨fun _ => k2 _ ⟨fun q => absurd q (by decide), fun _ => hp⟩, fun q => absurd rfl q⟩, hR.mono (by omega), by show s'.1 13 = _; rw [k4]; rfl, nIT (by omega) (by omega)⟩
  simp [wp_X5_pushOrPull]
  exact k1 _ hp
