/-! an instruction behind its bytes: the class's side s, code c, operation, mode, operand; the model's side a transformer P -/
def InsOK (K : Kp) (g : Nat) (s : S_Proc) (c op mode o : Int32) (P : (Int32 → S_Model → Prop) → Prop) : Prop := ∃ s' n u', Cm1 (wp_X5_carryOut_61 s c op mode o) s' ∧ Cm2 P n u' ∧ RR K (g + 4) s' u' ∧ s'.1 13 = n ∧ ∃ k : Nat, 1 ≤ k ∧ k ≤ 20 ∧ n = nI k
/-- the byte that an operation of group 0 takes -/
def TakeOK (K : Kp) (g : Nat) (s : S_Proc) (u : S_Model) (c op mode o mm : Int32) (T : Nat) : Prop := ∃ v s2 u2, by8 v ∧ (∀ Φ, wp_X5_use s2 op v Φ → wp_X5_carryOut_61 s c op mode o Φ) ∧ Cm2 (wp_X9_taken u mm) v u2 ∧ RR K g s2 u2 ∧ s2.1 13 = nI T + u2.1 11 ∧ bl1 (u2.1 11) ∧ u2.2.2 2 1 = u.2.2 2 1 ∧ u2.2.2 2 2 = u.2.2 2 2
theorem take_imm {K : Kp} {g : Nat} {s : S_Proc} {u : S_Model} (h : RR K g s u) (h11 : u.1 11 = 0) {o : Int32} (ho : by8 o) (eo : u.1 9 = o) {c op : Int32} {T : Nat} (hc : vp_in c 256) (ht : tab 2 c.toNatClampNeg = nI T) (hop : op >>> ((4 : Int32) &&& 31) = 0) : TakeOK K g s u c op 2 o 0 T := by
  refine ⟨o, sP (sP s 14 0) 13 (nI T), u, ho, fun Φ hp => ?_, fun Φ hp => ?_, (h.c14 0).c13 _, by rw [h11, add0]; rfl, Or.inl h11, rfl, rfl⟩
  · unfold wp_X5_carryOut_61
    simp [wp_X5_addressOf]
    refine ⟨hc, fun _ => ?_, fun q => absurd rfl q⟩
    rw [ht]
    unfold wp_X5_carryOut_108
    refine ⟨fun _ => ⟨fun _ => hp, fun q => absurd rfl q⟩, fun q => absurd (hop.symm.trans q) (by decide), fun q => absurd (hop.symm.trans q) (by decide), fun q => absurd (hop.symm.trans q) (by decide), fun q => absurd (hop.symm.trans q) (by decide), fun q => absurd (hop.symm.trans q) (by decide), fun q => absurd (hop.symm.trans q) (by decide), fun q => absurd (hop.symm.trans q) (by decide), fun q => absurd hop q.1⟩
  · rw [← eo] at hp
    exact ⟨fun _ => hp, fun q => absurd rfl q⟩
theorem cm_pays0 {op : Int32} (hop : op >>> ((4 : Int32) &&& 31) = 0) : Cm1 (wp_X2_paysForCrossing op) 1 := fun _ hp => ⟨fun _ => hp, fun q => absurd hop q⟩
theorem take_mem {K : Kp} {g : Nat} {s : S_Proc} {u : S_Model} (h : RR K g s u) {mc o mm : Int32} (hA : AddrOK K g s u mc o mm) (hmm : ¬ mm = 0) (hmc : ¬ mc = 2) {c op : Int32} {T : Nat} (hc : vp_in c 256) (ht : tab 2 c.toNatClampNeg = nI T) (hop : op >>> ((4 : Int32) &&& 31) = 0) : TakeOK K g s u c op mc o mm T := by
  obtain ⟨at_, s1, u1, hat, k1, k2, hR, hb, he, hs⟩ := hA
  have hR1 : RR K g (sP s1 13 (nI T + s1.1 14)) u1 := hR.c13 _
  obtain ⟨v, b', u2, hv, r1, r2, hR2, hsame⟩ := hR1.read hat
  have h11 : u2.1 11 = s1.1 14 := by rw [hsame.1.2.2.2.2.2.2.2.2.1, he]
  refine ⟨v, (upd s1.1 13 (nI T + s1.1 14), s1.2.1, s1.2.2.1, b'), u2, hv, fun Φ hp => ?_, fun Φ hp => ?_, hR2, by rw [h11]; rfl, by rw [h11]; exact hb, ?_, ?_⟩
  · refine k1 _ ⟨hc, ?_⟩
    have t108 : wp_X5_carryOut_108 (sP s1 13 (nI T + s1.1 14)) c op mc o at_ Φ := by
      unfold wp_X5_carryOut_108
      refine ⟨fun _ => ⟨fun q => absurd q hmc, fun _ => r1 _ hp⟩, fun q => absurd (hop.symm.trans q) (by decide), fun q => absurd (hop.symm.trans q) (by decide), fun q => absurd (hop.symm.trans q) (by decide), fun q => absurd (hop.symm.trans q) (by decide), fun q => absurd (hop.symm.trans q) (by decide), fun q => absurd (hop.symm.trans q) (by decide), fun q => absurd (hop.symm.trans q) (by decide), fun q => absurd hop q.1⟩
    rw [ht]
    rcases hb with e | e
    · rw [e, add0] at t108
      exact ⟨fun _ => t108, fun q => absurd e q⟩
    · rw [e] at t108
      exact ⟨fun q => absurd (e.symm.trans q) (by decide), fun _ => cm_pays0 hop _ ⟨fun q => absurd q (by decide), fun _ => t108⟩⟩
  · exact ⟨fun q => absurd q hmm, fun _ => k2 _ (r2 _ hp)⟩
  · rw [hsame.2.2.1, ← hR.1.1.2.1, ← h.1.1.2.1, hs]; rfl
  · rw [hsame.2.2.1, ← hR.1.1.2.2.1, ← h.1.1.2.2.1, hs]; rfl
theorem nIk {T l e : Nat} {n : Int32} (hn : n = nI T + nI l + nI e) (h1 : 1 ≤ T) (h2 : T ≤ 8) (hl : l ≤ 1) (he : e ≤ 1) : ∃ k : Nat, 1 ≤ k ∧ k ≤ 20 ∧ n = nI k := ⟨T + l + e, by omega, by omega, by rw [hn, nI_add, nI_add]⟩
theorem bl1_nI {x : Int32} (h : bl1 x) : ∃ l : Nat, l ≤ 1 ∧ x = nI l := by
  rcases h with rfl | rfl
  · exact ⟨0, by omega, rfl⟩
  · exact ⟨1, by omega, rfl⟩
theorem e_nI {x : Int32} (h : x = 0 ∨ x = 1) : ∃ l : Nat, l ≤ 1 ∧ x = nI l := bl1_nI h
/-- the operations of the model's alu -/
theorem ins_alu {K : Kp} {g : Nat} {s : S_Proc} {u : S_Model} {c op mode o mm what : Int32} {T : Nat} (hT : TakeOK K g s (mI u 11 0) c op mode o mm T) (hU : ∀ {s2 : S_Proc} {u2 : S_Model}, RR K g s2 u2 → ∀ {v : Int32}, by8 v → UseOK K g s2 u2 op what v) (h1 : 1 ≤ T) (h2 : T ≤ 8) (hw : Cm1 (wp_X9_wide c) mm) (ht : Cm1 (wp_X9_time mm) (nI T)) (hx : c >>> ((5 : Int32) &&& 31) = what) (h4 : ¬ what = 4) : InsOK K g s c op mode o (wp_X9_alu u c) := by
  obtain ⟨v, s2, u2, hv, k1, k2, hR, e13, hb, -, -⟩ := hT
  obtain ⟨s', e, u', q1, q2, q3, q4, q5⟩ := hU hR hv
  obtain ⟨l, hl, el⟩ := bl1_nI hb
  obtain ⟨e', he, ee⟩ := e_nI q5
  refine ⟨s', nI T + u2.1 11 + e, u', fun Φ hp => k1 _ (q1 _ hp), fun Φ hp => ?_, q3.mono (by omega), by rw [q4, e13], nIk (by rw [el, ee]) h1 h2 hl he⟩
  refine hw _ ⟨fun q => absurd (hx.symm.trans q) h4, fun _ => k2 _ (ht _ ?_)⟩
  rw [hx]
  refine ⟨fun z => ?_, fun z => ?_⟩
  · have := q2 (nI T) 0
    rw [z] at hp
    exact this _ hp
  · have := q2 (nI T) 1
    rw [show u2.1 11 = 1 from hb.resolve_left z] at hp
    exact this _ hp
/-- LDX, LDY -/
theorem ins_ldx {K : Kp} {g : Nat} {s : S_Proc} {u : S_Model} {c mode o mm : Int32} {T : Nat} (hT : TakeOK K g s (mI u 11 0) c 7 mode o mm T) (h1 : 1 ≤ T) (h2 : T ≤ 8) (ht : Cm1 (wp_X9_time mm) (nI T)) : InsOK K g s c 7 mode o (wp_X9_loaded u 1 mm) := by
  obtain ⟨v, s2, u2, hv, k1, k2, hR, e13, hb, -, -⟩ := hT
  obtain ⟨l, hl, el⟩ := bl1_nI hb
  have hR2 := (hR.shown hv).r1 hv
  refine ⟨_, nI T + u2.1 11, _, fun Φ hp => k1 _ (by simp [wp_X5_use]; exact ld_c hv _ hp), fun Φ hp => k2 _ (cmM_tested _ _ _ ⟨vp14, ht _ ?_⟩), hR2.mono (by omega), e13, nIk (e := 0) (by rw [el]; exact (add0 _).symm) h1 h2 hl (by omega)⟩
  refine ⟨fun z => ?_, fun z => ?_⟩
  · rw [show u2.1 11 = 0 from z] at hp; exact hp
  · rw [show u2.1 11 = 1 from hb.resolve_left z] at hp; exact hp
theorem ins_ldy {K : Kp} {g : Nat} {s : S_Proc} {u : S_Model} {c mode o mm : Int32} {T : Nat} (hT : TakeOK K g s (mI u 11 0) c 8 mode o mm T) (h1 : 1 ≤ T) (h2 : T ≤ 8) (ht : Cm1 (wp_X9_time mm) (nI T)) : InsOK K g s c 8 mode o (wp_X9_loaded u 2 mm) := by
  obtain ⟨v, s2, u2, hv, k1, k2, hR, e13, hb, -, -⟩ := hT
  obtain ⟨l, hl, el⟩ := bl1_nI hb
  have hR2 := (hR.shown hv).r2 hv
  refine ⟨_, nI T + u2.1 11, _, fun Φ hp => k1 _ (by simp [wp_X5_use]; exact ld_c hv _ hp), fun Φ hp => k2 _ (cmM_tested _ _ _ ⟨vp24, ht _ ?_⟩), hR2.mono (by omega), e13, nIk (e := 0) (by rw [el]; exact (add0 _).symm) h1 h2 hl (by omega)⟩
  refine ⟨fun z => ?_, fun z => ?_⟩
  · rw [show u2.1 11 = 0 from z] at hp; exact hp
  · rw [show u2.1 11 = 1 from hb.resolve_left z] at hp; exact hp
/-- CPX, CPY: in modes that never cross -/
def Take0 (K : Kp) (g : Nat) (s : S_Proc) (u : S_Model) (c op mode o mm : Int32) (T : Nat) : Prop := ∃ v s2 u2, by8 v ∧ (∀ Φ, wp_X5_use s2 op v Φ → wp_X5_carryOut_61 s c op mode o Φ) ∧ Cm2 (wp_X9_taken u mm) v u2 ∧ RR K g s2 u2 ∧ s2.1 13 = nI T ∧ u2.2.2 2 1 = u.2.2 2 1 ∧ u2.2.2 2 2 = u.2.2 2 2
theorem take0_imm {K : Kp} {g : Nat} {s : S_Proc} {u : S_Model} (h : RR K g s u) {o : Int32} (ho : by8 o) (eo : u.1 9 = o) {c op : Int32} {T : Nat} (hc : vp_in c 256) (ht : tab 2 c.toNatClampNeg = nI T) (hop : op >>> ((4 : Int32) &&& 31) = 0) : Take0 K g s u c op 2 o 0 T := by
  obtain ⟨v, s2, u2, hv, k1, k2, hR, e13, hb, r1, r2⟩ := take_imm (u := mI u 11 0) h rfl ho eo hc ht hop
  refine ⟨o, sP (sP s 14 0) 13 (nI T), u, ho, fun Φ hp => ?_, fun Φ hp => ?_, (h.c14 0).c13 _, rfl, rfl, rfl⟩
  · unfold wp_X5_carryOut_61
    simp [wp_X5_addressOf]
    refine ⟨hc, fun _ => ?_, fun q => absurd rfl q⟩
    rw [ht]
    unfold wp_X5_carryOut_108
    refine ⟨fun _ => ⟨fun _ => hp, fun q => absurd rfl q⟩, fun q => absurd (hop.symm.trans q) (by decide), fun q => absurd (hop.symm.trans q) (by decide), fun q => absurd (hop.symm.trans q) (by decide), fun q => absurd (hop.symm.trans q) (by decide), fun q => absurd (hop.symm.trans q) (by decide), fun q => absurd (hop.symm.trans q) (by decide), fun q => absurd (hop.symm.trans q) (by decide), fun q => absurd hop q.1⟩
  · rw [← eo] at hp
    exact ⟨fun _ => hp, fun q => absurd rfl q⟩
theorem take0_of {K : Kp} {g : Nat} {s : S_Proc} {u : S_Model} (h : RR K g s u) {mc o mm at_ : Int32} (hat : wd16 at_) (k1 : Cm2 (wp_X5_addressOf (sP s 14 0) mc o) at_ (sP s 14 0)) (k2 : Cm2 (wp_X9_address u mm) at_ (mI u 11 0)) (hmm : ¬ mm = 0) (hmc : ¬ mc = 2) {c op : Int32} {T : Nat} (hc : vp_in c 256) (ht : tab 2 c.toNatClampNeg = nI T) (hop : op >>> ((4 : Int32) &&& 31) = 0) : Take0 K g s u c op mc o mm T := by
  have hR1 : RR K g (sP (sP s 14 0) 13 (nI T)) (mI u 11 0) := ((h.c14 0).m11 0).c13 _
  obtain ⟨v, b', u2, hv, r1, r2, hR2, hsame⟩ := hR1.read hat
  refine ⟨v, (upd (upd s.1 14 0) 13 (nI T), s.2.1, s.2.2.1, b'), u2, hv, fun Φ hp => ?_, fun Φ hp => ?_, hR2, rfl, by rw [hsame.2.2.1], by rw [hsame.2.2.1]⟩
  · refine k1 _ ⟨hc, fun _ => ?_, fun q => absurd rfl q⟩
    rw [ht]
    unfold wp_X5_carryOut_108
    refine ⟨fun _ => ⟨fun q => absurd q hmc, fun _ => r1 _ hp⟩, fun q => absurd (hop.symm.trans q) (by decide), fun q => absurd (hop.symm.trans q) (by decide), fun q => absurd (hop.symm.trans q) (by decide), fun q => absurd (hop.symm.trans q) (by decide), fun q => absurd (hop.symm.trans q) (by decide), fun q => absurd (hop.symm.trans q) (by decide), fun q => absurd (hop.symm.trans q) (by decide), fun q => absurd hop q.1⟩
  · exact ⟨fun q => absurd q hmm, fun _ => k2 _ (r2 _ hp)⟩
theorem take0_zp {K : Kp} {g : Nat} {s : S_Proc} {u : S_Model} (h : RR K g s u) {o : Int32} (ho : by8 o) (eo : u.1 9 = o) {c op : Int32} {T : Nat} (hc : vp_in c 256) (ht : tab 2 c.toNatClampNeg = nI T) (hop : op >>> ((4 : Int32) &&& 31) = 0) : Take0 K g s u c op 4 o 1 T :=
  take0_of h ho.wd (fun Φ hp => by simp [wp_X5_addressOf]; exact hp) (fun Φ hp => by simp [wp_X9_address, eo]; exact hp) (by decide) (by decide) hc ht hop
theorem take0_abs {K : Kp} {g : Nat} {s : S_Proc} {u : S_Model} (h : RR K g s u) {o : Int32} (ho : wd16 o) (eo : u.1 10 = o) {c op : Int32} {T : Nat} (hc : vp_in c 256) (ht : tab 2 c.toNatClampNeg = nI T) (hop : op >>> ((4 : Int32) &&& 31) = 0) : Take0 K g s u c op 10 o 4 T :=
  take0_of h ho (fun Φ hp => by simp [wp_X5_addressOf]; exact hp) (fun Φ hp => by simp [wp_X9_address, eo]; exact hp) (by decide) (by decide) hc ht hop
theorem ins_cpx {K : Kp} {g : Nat} {s : S_Proc} {u : S_Model} {c mode o mm : Int32} {T : Nat} (hT : Take0 K g s u c 9 mode o mm T) (h1 : 1 ≤ T) (h2 : T ≤ 8) (ht : Cm1 (wp_X9_time mm) (nI T)) : InsOK K g s c 9 mode o (wp_X9_compared u 1 mm) := by
  obtain ⟨v, s2, u2, hv, k1, k2, hR, e13, r1, r2⟩ := hT
  obtain ⟨s', u', q1, q2, q3, q4, -⟩ := hR.compare (s2.1 1) v
  refine ⟨s', nI T, u', fun Φ hp => k1 _ (by simp [wp_X5_use]; exact q1 _ hp), fun Φ hp => ⟨vp14, k2 _ ?_⟩, q3.mono (by omega), by rw [q4, e13], nIk (l := 0) (e := 0) (by rw [show nI 0 = 0 from rfl, add0, add0]) h1 h2 (by omega) (by omega)⟩
  rw [hR.1.1.2.1, r1] at q2
  exact q2 _ (ht _ hp)
theorem ins_cpy {K : Kp} {g : Nat} {s : S_Proc} {u : S_Model} {c mode o mm : Int32} {T : Nat} (hT : Take0 K g s u c 10 mode o mm T) (h1 : 1 ≤ T) (h2 : T ≤ 8) (ht : Cm1 (wp_X9_time mm) (nI T)) : InsOK K g s c 10 mode o (wp_X9_compared u 2 mm) := by
  obtain ⟨v, s2, u2, hv, k1, k2, hR, e13, r1, r2⟩ := hT
  obtain ⟨s', u', q1, q2, q3, q4, -⟩ := hR.compare (s2.1 2) v
  refine ⟨s', nI T, u', fun Φ hp => k1 _ (by simp [wp_X5_use]; exact q1 _ hp), fun Φ hp => ⟨vp24, k2 _ ?_⟩, q3.mono (by omega), by rw [q4, e13], nIk (l := 0) (e := 0) (by rw [show nI 0 = 0 from rfl, add0, add0]) h1 h2 (by omega) (by omega)⟩
  rw [hR.1.1.2.2.1, r2] at q2
  exact q2 _ (ht _ hp)
/-- BIT -/
theorem bit_p {x v : Int32} (hx : by8 x) (hv : by8 v) : ((x ||| 48) &&& -193) ||| (v &&& 192) = fl (fl x 128 (if v ≤ 127 then 0 else 1)) 64 (if v &&& 64 = 0 then 0 else 1) ||| 48 := by
  have e1 : v &&& 192 = (if v ≤ 127 then 0 else 128) ||| (if v &&& 64 = 0 then 0 else 64) := by
    obtain ⟨n, hn, rfl⟩ := by8_nI hv
    have : ∀ n : Fin 256, nI n.val &&& 192 = (if nI n.val ≤ 127 then 0 else 128) ||| (if nI n.val &&& 64 = 0 then 0 else 64) := by decide +kernel
    exact this ⟨n, hn⟩
  rw [e1]
  obtain ⟨n, hn, rfl⟩ := by8_nI hx
  have t : ∀ n : Fin 256, ((nI n.val ||| 48) &&& -193 ||| (0 ||| 0) = fl (fl (nI n.val) 128 0) 64 0 ||| 48) ∧ ((nI n.val ||| 48) &&& -193 ||| (0 ||| 64) = fl (fl (nI n.val) 128 0) 64 1 ||| 48) ∧ ((nI n.val ||| 48) &&& -193 ||| (128 ||| 0) = fl (fl (nI n.val) 128 1) 64 0 ||| 48) ∧ ((nI n.val ||| 48) &&& -193 ||| (128 ||| 64) = fl (fl (nI n.val) 128 1) 64 1 ||| 48) := by decide +kernel
  have t := t ⟨n, hn⟩
  split <;> split
  · exact t.1
  · exact t.2.1
  · exact t.2.2.1
  · exact t.2.2.2
theorem ins_bit {K : Kp} {g : Nat} {s : S_Proc} {u : S_Model} {c mode o mm : Int32} {T : Nat} (hT : TakeOK K g s (mI u 11 0) c 11 mode o mm T) (hmm : ¬ mm = 0) (h1 : 1 ≤ T) (h2 : T ≤ 8) (ht : Cm1 (wp_X9_time mm) (nI T)) : InsOK K g s c 11 mode o (wp_X9_bits u mm) := by
  obtain ⟨v, s2, u2, hv, k1, k2, hR, e13, hb, -, -⟩ := hT
  obtain ⟨l, hl, el⟩ := bl1_nI hb
  obtain ⟨Z, hZ⟩ : ∃ Z : Int32, Z = if s2.1 0 &&& v = 0 then (1 : Int32) else 0 := ⟨_, rfl⟩
  have hR1 := hR.mark 2 Z (by decide) (by8_of (n := 2) (by omega))
  have p8 : by8 (fl (u2.1 3) 2 Z) := hR1.1.2.1.2.2.2.2.1
  have p48 : fl (s2.1 4) 2 Z = fl (u2.1 3) 2 Z ||| 48 := hR1.1.1.2.2.2.2.1
  have q8 : by8 (fl (fl (fl (u2.1 3) 2 Z) 128 (if v ≤ 127 then 0 else 1)) 64 (if v &&& 64 = 0 then 0 else 1)) := by8_fl (by8_fl p8 (by8_of (n := 128) (by omega)) _) by8_64 _
  have hR2 := hR1.p q8
  have cu : ∀ Φ : S_Proc → Prop, Φ (sP (sP s2 4 (fl (s2.1 4) 2 Z)) 4 (fl (fl (fl (u2.1 3) 2 Z) 128 (if v ≤ 127 then 0 else 1)) 64 (if v &&& 64 = 0 then 0 else 1) ||| 48)) → wp_X5_use_259 s2 v 2 Z Φ := by
    intro Φ hp
    refine cmC_mark s2 2 Z _ (fun v2 e2 => ?_)
    rw [e2]
    have : (sP s2 4 (fl (s2.1 4) 2 Z)).1 4 = fl (u2.1 3) 2 Z ||| 48 := p48
    rw [this, bit_p p8 hv]
    exact hp
  have mu : ∀ Φ : Int32 → S_Model → Prop, Φ (nI T + u2.1 11) (mI (mI u2 3 (fl (u2.1 3) 2 Z)) 3 (fl (fl (fl (u2.1 3) 2 Z) 128 (if v ≤ 127 then 0 else 1)) 64 (if v &&& 64 = 0 then 0 else 1))) → wp_X9_bits_29 u2 mm v 2 Z Φ := by
    intro Φ hp
    have fin : ∀ m : S_Model, m = mI (mI u2 3 (fl (u2.1 3) 2 Z)) 3 (fl (fl (fl (u2.1 3) 2 Z) 128 (if v ≤ 127 then 0 else 1)) 64 (if v &&& 64 = 0 then 0 else 1)) → wp_X9_bits_72 m mm Φ := by
      intro m em
      rw [em]
      refine ht _ ⟨fun z => ?_, fun z => ?_⟩
      · rw [show u2.1 11 = 0 from z] at hp; exact hp
      · rw [show u2.1 11 = 1 from hb.resolve_left z] at hp; exact hp
    have f51 : ∀ N : Int32, N = (if v ≤ 127 then (0 : Int32) else 1) → wp_X9_bits_51 (mI u2 3 (fl (u2.1 3) 2 Z)) mm v 128 N Φ := by
      intro N eN
      refine cmM_flag _ 128 N _ ⟨fun q => cmM_flag _ 64 0 _ (fin _ ?_), fun q => cmM_flag _ 64 1 _ (fin _ ?_)⟩
      · rw [if_pos q, ← eN]; exact mI_mI _ 3 _ _
      · rw [if_neg q, ← eN]; exact mI_mI _ 3 _ _
    exact cmM_flag u2 2 Z _ ⟨fun q => absurd q hmm, fun _ => ⟨fun q => f51 0 (by rw [if_pos q]), fun q => f51 1 (by rw [if_neg q])⟩⟩
  refine ⟨_, nI T + u2.1 11, _, fun Φ hp => k1 _ ?_, fun Φ hp => k2 _ ⟨vp04, fun v11 e11 => ?_⟩, hR2.mono (by omega), e13, nIk (e := 0) (by rw [el]; exact (add0 _).symm) h1 h2 hl (by omega)⟩
  · simp [wp_X5_use]
    refine ⟨fun q => ?_, fun q => ?_⟩
    · rw [if_pos q] at hZ; subst hZ; exact cu _ hp
    · rw [if_neg q] at hZ; subst hZ; exact cu _ hp
  · have e11 : v11 = u2.2.2 2 0 &&& v := e11
    rw [← hR.1.1.1] at e11
    refine ⟨fun q => ?_, fun q => ?_⟩
    · rw [if_pos (e11.symm.trans q)] at hZ; subst hZ; exact mu _ hp
    · rw [if_neg (fun z => q (e11.trans z))] at hZ; subst hZ; exact mu _ hp
theorem ins_bti {K : Kp} {g : Nat} {s : S_Proc} {u : S_Model} {c o : Int32} {T : Nat} (hT : TakeOK K g s (mI u 11 0) c 12 2 o 0 T) (h1 : 1 ≤ T) (h2 : T ≤ 8) (ht : Cm1 (wp_X9_time 0) (nI T)) : InsOK K g s c 12 2 o (wp_X9_bits u 0) := by
  obtain ⟨v, s2, u2, hv, k1, k2, hR, e13, hb, -, -⟩ := hT
  obtain ⟨l, hl, el⟩ := bl1_nI hb
  obtain ⟨Z, hZ⟩ : ∃ Z : Int32, Z = if s2.1 0 &&& v = 0 then (1 : Int32) else 0 := ⟨_, rfl⟩
  have hR1 := hR.mark 2 Z (by decide) (by8_of (n := 2) (by omega))
  have mu : ∀ Φ : Int32 → S_Model → Prop, Φ (nI T + u2.1 11) (mI u2 3 (fl (u2.1 3) 2 Z)) → wp_X9_bits_29 u2 0 v 2 Z Φ := by
    intro Φ hp
    refine cmM_flag u2 2 Z _ ⟨fun _ => ht _ ⟨fun z => ?_, fun z => ?_⟩, fun q => absurd rfl q⟩
    · rw [show u2.1 11 = 0 from z] at hp; exact hp
    · rw [show u2.1 11 = 1 from hb.resolve_left z] at hp; exact hp
  refine ⟨_, nI T + u2.1 11, _, fun Φ hp => k1 _ ?_, fun Φ hp => k2 _ ⟨vp04, fun v11 e11 => ?_⟩, hR1.mono (by omega), e13, nIk (e := 0) (by rw [el]; exact (add0 _).symm) h1 h2 hl (by omega)⟩
  · simp [wp_X5_use]
    refine ⟨fun q => ?_, fun q => ?_⟩
    · rw [if_pos q] at hZ; subst hZ; exact cmC_mark s2 2 1 _ hp
    · rw [if_neg q] at hZ; subst hZ; exact cmC_mark s2 2 0 _ hp
  · have e11 : v11 = u2.2.2 2 0 &&& v := e11
    rw [← hR.1.1.1] at e11
    refine ⟨fun q => ?_, fun q => ?_⟩
    · rw [if_pos (e11.symm.trans q)] at hZ; subst hZ; exact mu _ hp
    · rw [if_neg (fun z => q (e11.trans z))] at hZ; subst hZ; exact mu _ hp
