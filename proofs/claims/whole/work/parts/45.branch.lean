/-! branches -/
theorem sgn {d : Int32} (hd : by8 d) : d.toInt8.toInt32 = if d ≤ 127 then d else d - 256 := by
  obtain ⟨n, hn, rfl⟩ := by8_nI hd
  have : ∀ n : Fin 256, (nI n.val).toInt8.toInt32 = if nI n.val ≤ 127 then nI n.val else nI n.val - 256 := by decide +kernel
  exact this ⟨n, hn⟩
theorem RR.go {K : Kp} {g : Nat} {s : S_Proc} {u : S_Model} (h : RR K g s u) {d : Int32} (hd : by8 d) (t : Int32) : ∃ s' e u', Cm1 (wp_X5_goIf s t d) s' ∧ (∀ N : Int32, Cm2 (wp_X9_jump u t d N) (N + e) u') ∧ RR K g s' u' ∧ s'.1 13 = s.1 13 + e ∧ (e = 0 ∨ e = 1 ∨ e = 2) := by
  by_cases ht : t = 0
  · refine ⟨s, 0, u, fun Φ hp => ⟨fun _ => hp, fun q => absurd ht q⟩, fun N Φ hp => ⟨fun _ => by rw [add0] at hp; exact hp, fun q => absurd ht q⟩, h, (add0 _).symm, Or.inl rfl⟩
  · obtain ⟨z, hz⟩ : ∃ z : Int32, z = (s.1 5 + d.toInt8.toInt32) &&& 65535 := ⟨_, rfl⟩
    have e5 := h.1.1.2.2.2.2.2.1
    obtain ⟨e, he⟩ : ∃ e : Int32, e = if z >>> ((8 : Int32) &&& 31) = s.1 5 >>> ((8 : Int32) &&& 31) then (1 : Int32) else 2 := ⟨_, rfl⟩
    have hzw : wd16 z := by rw [hz]; exact wd16_and _
    have hR := (h.pc hzw).c13 (s.1 13 + e)
    refine ⟨_, e, _, fun Φ hp => ⟨fun q => absurd q ht, fun _ v2 e2 => ?_⟩, fun N Φ hp => ⟨fun q => absurd q ht, fun _ => ?_⟩, hR, rfl, by rw [he]; split; exact Or.inr (Or.inl rfl); exact Or.inr (Or.inr rfl)⟩
    · rw [e2, ← hz]
      refine ⟨fun q => ?_, fun q => ?_⟩
      · rw [he, if_pos q] at hp; exact hp
      · rw [he, if_neg q] at hp; exact hp
    · have j32 : ∀ x : Int32, (u.1 4 + x) &&& 65535 = z → wp_X9_jump_32 u N (u.1 4) (u.1 4) x Φ := by
        intro x ex v1 e1
        rw [ex] at e1
        rw [ex]
        refine ⟨fun q => ?_, fun q => ?_⟩
        · rw [he, if_pos (by rw [e5]; exact e1.symm.trans q)] at hp; exact hp
        · rw [he, if_neg (by rw [e5]; exact fun w => q (e1.trans w))] at hp; exact hp
      rw [sgn hd, e5] at hz
      refine ⟨fun q => j32 _ ?_, fun q => j32 _ ?_⟩
      · rw [if_pos q] at hz; exact hz.symm
      · rw [if_neg q] at hz; exact hz.symm
theorem nIe {T : Nat} {e n : Int32} (he : e = 0 ∨ e = 1 ∨ e = 2) (hn : n = nI T + e) (h1 : 1 ≤ T) (h2 : T ≤ 8) : ∃ k : Nat, 1 ≤ k ∧ k ≤ 20 ∧ n = nI k := by
  rcases he with rfl | rfl | rfl
  · exact ⟨T, h1, by omega, by rw [hn, add0]⟩
  · exact ⟨T + 1, by omega, by omega, by rw [hn, show (1 : Int32) = nI 1 from rfl, nI_add]⟩
  · exact ⟨T + 2, by omega, by omega, by rw [hn, show (2 : Int32) = nI 2 from rfl, nI_add]⟩
theorem ins_bpl {K : Kp} {g : Nat} {s : S_Proc} {u : S_Model} (h : RR K g s u) {c o : Int32} (ho : by8 o) (eo : u.1 9 = o) (hc : vp_in c 256) (ht : tab 2 c.toNatClampNeg = nI 2) (hb : ¬ c = 128) : InsOK K g s c 96 3 o (wp_X9_branch_54 u c 128 0) := by
  have ef : s.1 4 &&& 128 = u.1 3 &&& 128 := h.pbit (by decide)
  obtain ⟨s', e, u', k1, k2, k3, k4, k5⟩ := (h.beg 2).go ho (if u.1 3 &&& 128 = 0 then (1 : Int32) else 0)
  refine ⟨s', nI 2 + e, u', fun Φ hp => c61_p ⟨by decide, by decide, by decide, by decide, by decide, by decide, by decide⟩ hc ht (c108_6 (by decide) ?_), fun Φ hp => ⟨fun q => absurd q hb, fun _ => cm_is u 128 _ ?_⟩, k3.mono (by omega), k4, nIe k5 rfl (by omega) (by omega)⟩
  · simp [wp_X5_branch]
    rw [show (upd (upd s.1 14 0) 13 (nI 2)) 4 &&& 128 = u.1 3 &&& 128 from ef]
    refine ⟨fun q => ?_, fun q => ?_⟩
    · rw [if_pos q] at k1; exact k1 _ hp
    · rw [if_neg q] at k1; exact k1 _ hp
  · rw [eo]
    by_cases q : u.1 3 &&& 128 = 0
    · rw [if_pos q] at k2 ⊢
      exact ⟨fun z => k2 2 _ hp, fun z => absurd rfl z⟩
    · rw [if_neg q] at k2 ⊢
      exact ⟨fun z => absurd z (by decide), fun z => k2 2 _ hp⟩
theorem ins_bmi {K : Kp} {g : Nat} {s : S_Proc} {u : S_Model} (h : RR K g s u) {c o : Int32} (ho : by8 o) (eo : u.1 9 = o) (hc : vp_in c 256) (ht : tab 2 c.toNatClampNeg = nI 2) (hb : ¬ c = 128) : InsOK K g s c 97 3 o (wp_X9_branch_54 u c 128 1) := by
  have ef : s.1 4 &&& 128 = u.1 3 &&& 128 := h.pbit (by decide)
  obtain ⟨s', e, u', k1, k2, k3, k4, k5⟩ := (h.beg 2).go ho (if u.1 3 &&& 128 = 0 then (0 : Int32) else 1)
  refine ⟨s', nI 2 + e, u', fun Φ hp => c61_p ⟨by decide, by decide, by decide, by decide, by decide, by decide, by decide⟩ hc ht (c108_6 (by decide) ?_), fun Φ hp => ⟨fun q => absurd q hb, fun _ => cm_is u 128 _ ?_⟩, k3.mono (by omega), k4, nIe k5 rfl (by omega) (by omega)⟩
  · simp [wp_X5_branch]
    rw [show (upd (upd s.1 14 0) 13 (nI 2)) 4 &&& 128 = u.1 3 &&& 128 from ef]
    refine ⟨fun q => ?_, fun q => ?_⟩
    · rw [if_pos q] at k1; exact k1 _ hp
    · rw [if_neg q] at k1; exact k1 _ hp
  · rw [eo]
    by_cases q : u.1 3 &&& 128 = 0
    · rw [if_pos q] at k2 ⊢
      exact ⟨fun z => absurd z (by decide), fun z => k2 2 _ hp⟩
    · rw [if_neg q] at k2 ⊢
      exact ⟨fun z => k2 2 _ hp, fun z => absurd rfl z⟩
theorem ins_bvc {K : Kp} {g : Nat} {s : S_Proc} {u : S_Model} (h : RR K g s u) {c o : Int32} (ho : by8 o) (eo : u.1 9 = o) (hc : vp_in c 256) (ht : tab 2 c.toNatClampNeg = nI 2) (hb : ¬ c = 128) : InsOK K g s c 98 3 o (wp_X9_branch_54 u c 64 0) := by
  have ef : s.1 4 &&& 64 = u.1 3 &&& 64 := h.pbit (by decide)
  obtain ⟨s', e, u', k1, k2, k3, k4, k5⟩ := (h.beg 2).go ho (if u.1 3 &&& 64 = 0 then (1 : Int32) else 0)
  refine ⟨s', nI 2 + e, u', fun Φ hp => c61_p ⟨by decide, by decide, by decide, by decide, by decide, by decide, by decide⟩ hc ht (c108_6 (by decide) ?_), fun Φ hp => ⟨fun q => absurd q hb, fun _ => cm_is u 64 _ ?_⟩, k3.mono (by omega), k4, nIe k5 rfl (by omega) (by omega)⟩
  · simp [wp_X5_branch]
    rw [show (upd (upd s.1 14 0) 13 (nI 2)) 4 &&& 64 = u.1 3 &&& 64 from ef]
    refine ⟨fun q => ?_, fun q => ?_⟩
    · rw [if_pos q] at k1; exact k1 _ hp
    · rw [if_neg q] at k1; exact k1 _ hp
  · rw [eo]
    by_cases q : u.1 3 &&& 64 = 0
    · rw [if_pos q] at k2 ⊢
      exact ⟨fun z => k2 2 _ hp, fun z => absurd rfl z⟩
    · rw [if_neg q] at k2 ⊢
      exact ⟨fun z => absurd z (by decide), fun z => k2 2 _ hp⟩
theorem ins_bvs {K : Kp} {g : Nat} {s : S_Proc} {u : S_Model} (h : RR K g s u) {c o : Int32} (ho : by8 o) (eo : u.1 9 = o) (hc : vp_in c 256) (ht : tab 2 c.toNatClampNeg = nI 2) (hb : ¬ c = 128) : InsOK K g s c 99 3 o (wp_X9_branch_54 u c 64 1) := by
  have ef : s.1 4 &&& 64 = u.1 3 &&& 64 := h.pbit (by decide)
  obtain ⟨s', e, u', k1, k2, k3, k4, k5⟩ := (h.beg 2).go ho (if u.1 3 &&& 64 = 0 then (0 : Int32) else 1)
  refine ⟨s', nI 2 + e, u', fun Φ hp => c61_p ⟨by decide, by decide, by decide, by decide, by decide, by decide, by decide⟩ hc ht (c108_6 (by decide) ?_), fun Φ hp => ⟨fun q => absurd q hb, fun _ => cm_is u 64 _ ?_⟩, k3.mono (by omega), k4, nIe k5 rfl (by omega) (by omega)⟩
  · simp [wp_X5_branch]
    rw [show (upd (upd s.1 14 0) 13 (nI 2)) 4 &&& 64 = u.1 3 &&& 64 from ef]
    refine ⟨fun q => ?_, fun q => ?_⟩
    · rw [if_pos q] at k1; exact k1 _ hp
    · rw [if_neg q] at k1; exact k1 _ hp
  · rw [eo]
    by_cases q : u.1 3 &&& 64 = 0
    · rw [if_pos q] at k2 ⊢
      exact ⟨fun z => absurd z (by decide), fun z => k2 2 _ hp⟩
    · rw [if_neg q] at k2 ⊢
      exact ⟨fun z => k2 2 _ hp, fun z => absurd rfl z⟩
theorem ins_bcc {K : Kp} {g : Nat} {s : S_Proc} {u : S_Model} (h : RR K g s u) {c o : Int32} (ho : by8 o) (eo : u.1 9 = o) (hc : vp_in c 256) (ht : tab 2 c.toNatClampNeg = nI 2) (hb : ¬ c = 128) : InsOK K g s c 100 3 o (wp_X9_branch_54 u c 1 0) := by
  have ef : s.1 4 &&& 1 = u.1 3 &&& 1 := h.pbit (by decide)
  obtain ⟨s', e, u', k1, k2, k3, k4, k5⟩ := (h.beg 2).go ho (if u.1 3 &&& 1 = 0 then (1 : Int32) else 0)
  refine ⟨s', nI 2 + e, u', fun Φ hp => c61_p ⟨by decide, by decide, by decide, by decide, by decide, by decide, by decide⟩ hc ht (c108_6 (by decide) ?_), fun Φ hp => ⟨fun q => absurd q hb, fun _ => cm_is u 1 _ ?_⟩, k3.mono (by omega), k4, nIe k5 rfl (by omega) (by omega)⟩
  · simp [wp_X5_branch]
    rw [show (upd (upd s.1 14 0) 13 (nI 2)) 4 &&& 1 = u.1 3 &&& 1 from ef]
    refine ⟨fun q => ?_, fun q => ?_⟩
    · rw [if_pos q] at k1; exact k1 _ hp
    · rw [if_neg q] at k1; exact k1 _ hp
  · rw [eo]
    by_cases q : u.1 3 &&& 1 = 0
    · rw [if_pos q] at k2 ⊢
      exact ⟨fun z => k2 2 _ hp, fun z => absurd rfl z⟩
    · rw [if_neg q] at k2 ⊢
      exact ⟨fun z => absurd z (by decide), fun z => k2 2 _ hp⟩
theorem ins_bcs {K : Kp} {g : Nat} {s : S_Proc} {u : S_Model} (h : RR K g s u) {c o : Int32} (ho : by8 o) (eo : u.1 9 = o) (hc : vp_in c 256) (ht : tab 2 c.toNatClampNeg = nI 2) (hb : ¬ c = 128) : InsOK K g s c 101 3 o (wp_X9_branch_54 u c 1 1) := by
  have ef : s.1 4 &&& 1 = u.1 3 &&& 1 := h.pbit (by decide)
  obtain ⟨s', e, u', k1, k2, k3, k4, k5⟩ := (h.beg 2).go ho (if u.1 3 &&& 1 = 0 then (0 : Int32) else 1)
  refine ⟨s', nI 2 + e, u', fun Φ hp => c61_p ⟨by decide, by decide, by decide, by decide, by decide, by decide, by decide⟩ hc ht (c108_6 (by decide) ?_), fun Φ hp => ⟨fun q => absurd q hb, fun _ => cm_is u 1 _ ?_⟩, k3.mono (by omega), k4, nIe k5 rfl (by omega) (by omega)⟩
  · simp [wp_X5_branch]
    rw [show (upd (upd s.1 14 0) 13 (nI 2)) 4 &&& 1 = u.1 3 &&& 1 from ef]
    refine ⟨fun q => ?_, fun q => ?_⟩
    · rw [if_pos q] at k1; exact k1 _ hp
    · rw [if_neg q] at k1; exact k1 _ hp
  · rw [eo]
    by_cases q : u.1 3 &&& 1 = 0
    · rw [if_pos q] at k2 ⊢
      exact ⟨fun z => absurd z (by decide), fun z => k2 2 _ hp⟩
    · rw [if_neg q] at k2 ⊢
      exact ⟨fun z => k2 2 _ hp, fun z => absurd rfl z⟩
theorem ins_bne {K : Kp} {g : Nat} {s : S_Proc} {u : S_Model} (h : RR K g s u) {c o : Int32} (ho : by8 o) (eo : u.1 9 = o) (hc : vp_in c 256) (ht : tab 2 c.toNatClampNeg = nI 2) (hb : ¬ c = 128) : InsOK K g s c 102 3 o (wp_X9_branch_54 u c 2 0) := by
  have ef : s.1 4 &&& 2 = u.1 3 &&& 2 := h.pbit (by decide)
  obtain ⟨s', e, u', k1, k2, k3, k4, k5⟩ := (h.beg 2).go ho (if u.1 3 &&& 2 = 0 then (1 : Int32) else 0)
  refine ⟨s', nI 2 + e, u', fun Φ hp => c61_p ⟨by decide, by decide, by decide, by decide, by decide, by decide, by decide⟩ hc ht (c108_6 (by decide) ?_), fun Φ hp => ⟨fun q => absurd q hb, fun _ => cm_is u 2 _ ?_⟩, k3.mono (by omega), k4, nIe k5 rfl (by omega) (by omega)⟩
  · simp [wp_X5_branch]
    rw [show (upd (upd s.1 14 0) 13 (nI 2)) 4 &&& 2 = u.1 3 &&& 2 from ef]
    refine ⟨fun q => ?_, fun q => ?_⟩
    · rw [if_pos q] at k1; exact k1 _ hp
    · rw [if_neg q] at k1; exact k1 _ hp
  · rw [eo]
    by_cases q : u.1 3 &&& 2 = 0
    · rw [if_pos q] at k2 ⊢
      exact ⟨fun z => k2 2 _ hp, fun z => absurd rfl z⟩
    · rw [if_neg q] at k2 ⊢
      exact ⟨fun z => absurd z (by decide), fun z => k2 2 _ hp⟩
theorem ins_beq {K : Kp} {g : Nat} {s : S_Proc} {u : S_Model} (h : RR K g s u) {c o : Int32} (ho : by8 o) (eo : u.1 9 = o) (hc : vp_in c 256) (ht : tab 2 c.toNatClampNeg = nI 2) (hb : ¬ c = 128) : InsOK K g s c 103 3 o (wp_X9_branch_54 u c 2 1) := by
  have ef : s.1 4 &&& 2 = u.1 3 &&& 2 := h.pbit (by decide)
  obtain ⟨s', e, u', k1, k2, k3, k4, k5⟩ := (h.beg 2).go ho (if u.1 3 &&& 2 = 0 then (0 : Int32) else 1)
  refine ⟨s', nI 2 + e, u', fun Φ hp => c61_p ⟨by decide, by decide, by decide, by decide, by decide, by decide, by decide⟩ hc ht (c108_6 (by decide) ?_), fun Φ hp => ⟨fun q => absurd q hb, fun _ => cm_is u 2 _ ?_⟩, k3.mono (by omega), k4, nIe k5 rfl (by omega) (by omega)⟩
  · simp [wp_X5_branch]
    rw [show (upd (upd s.1 14 0) 13 (nI 2)) 4 &&& 2 = u.1 3 &&& 2 from ef]
    refine ⟨fun q => ?_, fun q => ?_⟩
    · rw [if_pos q] at k1; exact k1 _ hp
    · rw [if_neg q] at k1; exact k1 _ hp
  · rw [eo]
    by_cases q : u.1 3 &&& 2 = 0
    · rw [if_pos q] at k2 ⊢
      exact ⟨fun z => absurd z (by decide), fun z => k2 2 _ hp⟩
    · rw [if_neg q] at k2 ⊢
      exact ⟨fun z => k2 2 _ hp, fun z => absurd rfl z⟩
theorem ins_bra {K : Kp} {g : Nat} {s : S_Proc} {u : S_Model} (h : RR K g s u) {o : Int32} (ho : by8 o) (eo : u.1 9 = o) (hc : vp_in 128 256) (ht : tab 2 (128 : Int32).toNatClampNeg = nI 2) (f on : Int32) : InsOK K g s 128 104 3 o (wp_X9_branch_54 u 128 f on) := by
  obtain ⟨s', e, u', k1, k2, k3, k4, k5⟩ := (h.beg 2).go ho 1
  refine ⟨s', nI 2 + e, u', fun Φ hp => c61_p ⟨by decide, by decide, by decide, by decide, by decide, by decide, by decide⟩ hc ht (c108_6 (by decide) ?_), fun Φ hp => ⟨fun _ => ?_, fun q => absurd rfl q⟩, k3.mono (by omega), k4, nIe k5 rfl (by omega) (by omega)⟩
  · simp [wp_X5_branch]; exact k1 _ hp
  · rw [eo]; exact k2 2 _ hp
/-- BBR, BBS -/
theorem bitk {v c bit : Int32} (hv : by8 v) {k : Nat} (hk : k < 8) (hck : (c >>> ((4 : Int32) &&& 31)) &&& 7 = nI k) (hbit : (1 : Int32) <<< (nI k &&& 31) = bit) : (v >>> (((c >>> ((4 : Int32) &&& 31)) &&& 7) &&& 31)) &&& 1 = 0 ↔ v &&& bit = 0 := by
  rw [hck, ← hbit]
  obtain ⟨n, hn, rfl⟩ := by8_nI hv
  have : ∀ k : Fin 8, ∀ n : Fin 256, ((nI n.val >>> (nI k.val &&& 31)) &&& 1 = 0 ↔ nI n.val &&& ((1 : Int32) <<< (nI k.val &&& 31)) = 0) := by decide +kernel
  exact this ⟨k, hk⟩ ⟨n, hn⟩
theorem ins_bb {K : Kp} {g : Nat} {s : S_Proc} {u : S_Model} (h : RR K g s u) {c o op on : Int32} (ho : wd16 o) (e9 : u.1 9 = o &&& 255) (e10 : u.1 10 = o) (hc : vp_in c 256) (ht : tab 2 c.toNatClampNeg = nI 5) {k : Nat} (hk : k < 8) (hck : (c >>> ((4 : Int32) &&& 31)) &&& 7 = nI k) (h15 : c &&& 15 = 15) (hop : (op = 105 ∧ on = 0 ∧ c ≤ 127) ∨ (op = 106 ∧ on = 1 ∧ ¬ c ≤ 127)) : InsOK K g s c op 13 o (wp_X9_single u c) := by
  obtain ⟨v, b1, u1, hv, r1, r2, hR1, hs1⟩ := (h.beg 5).read (a := o &&& 255) (by8_and o).wd
  have hbk := bitk (c := c) (bit := (1 : Int32) <<< (nI k &&& 31)) hv hk hck rfl
  have w10 : u1.1 10 = o := by rw [hs1.1.2.2.2.2.2.2.2.1, e10]
  rcases hop with ⟨rfl, rfl, hl⟩ | ⟨rfl, rfl, hl⟩
  · obtain ⟨s', e, u', k1, k2, k3, k4, k5⟩ := hR1.go (d := o >>> ((8 : Int32) &&& 31)) (wd16_hi ho) (if v &&& ((1 : Int32) <<< (nI k &&& 31)) = 0 then (1 : Int32) else 0)
    refine ⟨s', nI 5 + e, u', fun Φ hp => c61_p ⟨by decide, by decide, by decide, by decide, by decide, by decide, by decide⟩ hc ht (c108_6 (by decide) ?_), fun Φ hp => ?_, k3.mono (by omega), k4, nIe k5 rfl (by omega) (by omega)⟩
    · simp [wp_X5_branch]
      refine r1 _ ⟨fun q => ?_, fun q => ?_⟩
      · rw [if_pos (hbk.mp q)] at k1; exact k1 _ hp
      · rw [if_neg (fun z => q (hbk.mpr z))] at k1; exact k1 _ hp
    · intro v13 e13
      refine ⟨fun _ => ?_, fun q => absurd hl q⟩
      rw [e13, hck]
      unfold wp_X9_single_20
      rw [e9]
      refine r2 _ ⟨fun _ => ⟨fun q => ?_, fun q => ?_⟩, fun q => absurd h15 q⟩
      · rw [if_pos q] at k2; unfold wp_X9_single_53; rw [w10]; exact ⟨fun _ => k2 5 _ hp, fun z => absurd rfl z⟩
      · rw [if_neg q] at k2; unfold wp_X9_single_53; rw [w10]; exact ⟨fun z => absurd z (by decide), fun _ => k2 5 _ hp⟩
  · obtain ⟨s', e, u', k1, k2, k3, k4, k5⟩ := hR1.go (d := o >>> ((8 : Int32) &&& 31)) (wd16_hi ho) (if v &&& ((1 : Int32) <<< (nI k &&& 31)) = 0 then (0 : Int32) else 1)
    refine ⟨s', nI 5 + e, u', fun Φ hp => c61_p ⟨by decide, by decide, by decide, by decide, by decide, by decide, by decide⟩ hc ht (c108_6 (by decide) ?_), fun Φ hp => ?_, k3.mono (by omega), k4, nIe k5 rfl (by omega) (by omega)⟩
    · simp [wp_X5_branch]
      refine r1 _ ⟨fun q => ?_, fun q => ?_⟩
      · rw [if_pos (hbk.mp q)] at k1; exact k1 _ hp
      · rw [if_neg (fun z => q (hbk.mpr z))] at k1; exact k1 _ hp
    · intro v13 e13
      refine ⟨fun q => absurd q hl, fun _ => ?_⟩
      rw [e13, hck]
      unfold wp_X9_single_20
      rw [e9]
      refine r2 _ ⟨fun _ => ⟨fun q => ?_, fun q => ?_⟩, fun q => absurd h15 q⟩
      · rw [if_pos q] at k2; unfold wp_X9_single_53; rw [w10]; exact ⟨fun z => absurd z (by decide), fun _ => k2 5 _ hp⟩
      · rw [if_neg q] at k2; unfold wp_X9_single_53; rw [w10]; exact ⟨fun _ => k2 5 _ hp, fun z => absurd rfl z⟩
/-! jumps -/
theorem ins_jmp {K : Kp} {g : Nat} {s : S_Proc} {u : S_Model} (h : RR K g s u) {c o : Int32} (ho : wd16 o) (eo : u.1 10 = o) (hc : vp_in c 256) (ht : tab 2 c.toNatClampNeg = nI 3) : InsOK K g s c 112 10 o (fun Φ => Φ 3 (upd u.1 4 (u.1 10), u.2.1, u.2.2)) := by
  have hR := (h.beg 3).pc ho
  refine ⟨_, nI 3, _, fun Φ hp => c61_p ⟨by decide, by decide, by decide, by decide, by decide, by decide, by decide⟩ hc ht (c108_7 (by decide) ?_), fun Φ hp => ?_, hR.mono (by omega), rfl, nIT (by omega) (by omega)⟩
  · simp [wp_X5_jump]; exact hp
  · rw [eo]; exact hp
theorem ins_jmi {K : Kp} {g : Nat} {s : S_Proc} {u : S_Model} (h : RR K g s u) {c o : Int32} (ho : wd16 o) (eo : u.1 10 = o) (hc : vp_in c 256) (ht : tab 2 c.toNatClampNeg = nI 6) : InsOK K g s c 113 10 o (fun Φ => wp_X9_wordAt u (u.1 10) (fun r13 u14 => Φ 6 (upd u14.1 4 r13, u14.2.1, u14.2.2))) := by
  obtain ⟨v, s', u', hv, k1, k2, k3, k4, -⟩ := (h.beg 6).word ho
  have hR := k3.pc hv
  refine ⟨_, nI 6, _, fun Φ hp => c61_p ⟨by decide, by decide, by decide, by decide, by decide, by decide, by decide⟩ hc ht (c108_7 (by decide) ?_), fun Φ hp => ?_, hR.mono (by omega), by show s'.1 13 = _; rw [k4]; rfl, nIT (by omega) (by omega)⟩
  · simp [wp_X5_jump]; exact k1 _ hp
  · rw [eo]; exact k2 _ hp
theorem mask_nextw {y : Int32} (h1 : 0 ≤ y) (h2 : y ≤ 100000) : ((y &&& 65535) + 1) &&& 65535 = (y + 1) &&& 65535 := by
  obtain ⟨n, hn, rfl⟩ := nI_of2 (x := y) (M := 100000) (n := 100000) rfl (by grind) h2
  rw [pk_andN (n := n) (by omega) (m := 65535) 16 rfl, nI_1, nI_1, pk_andN (n := n % 2 ^ 16 + 1) (by omega) (m := 65535) 16 rfl, pk_andN (n := n + 1) (by omega) (m := 65535) 16 rfl]
  congr 1; omega
