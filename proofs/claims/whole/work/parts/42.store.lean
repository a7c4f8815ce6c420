/-! operations that write -/
theorem c108_1 {s : S_Proc} {c op mc o at_ : Int32} {Φ : S_Proc → Prop} (hop : op >>> ((4 : Int32) &&& 31) = 1) (h : wp_X5_stored s op (fun r8 => wp_X0_write s.2.2.2 at_ r8 (fun u9 => Φ (s.1, s.2.1, s.2.2.1, u9)))) : wp_X5_carryOut_108 s c op mc o at_ Φ := by
  unfold wp_X5_carryOut_108
  exact ⟨fun q => absurd (hop.symm.trans q) (by decide), fun _ => h, fun q => absurd (hop.symm.trans q) (by decide), fun q => absurd (hop.symm.trans q) (by decide), fun q => absurd (hop.symm.trans q) (by decide), fun q => absurd (hop.symm.trans q) (by decide), fun q => absurd (hop.symm.trans q) (by decide), fun q => absurd (hop.symm.trans q) (by decide), fun q => absurd hop q.2.1⟩
theorem c108_2 {s : S_Proc} {c op mc o at_ : Int32} {Φ : S_Proc → Prop} (hop : op >>> ((4 : Int32) &&& 31) = 2) (h : wp_X5_change s op ((c >>> ((4 : Int32) &&& 31)) &&& 7) mc at_ (fun u12 => Φ u12)) : wp_X5_carryOut_108 s c op mc o at_ Φ := by
  unfold wp_X5_carryOut_108
  exact ⟨fun q => absurd (hop.symm.trans q) (by decide), fun q => absurd (hop.symm.trans q) (by decide), fun _ v11 e11 => by rw [e11]; exact h, fun q => absurd (hop.symm.trans q) (by decide), fun q => absurd (hop.symm.trans q) (by decide), fun q => absurd (hop.symm.trans q) (by decide), fun q => absurd (hop.symm.trans q) (by decide), fun q => absurd (hop.symm.trans q) (by decide), fun q => absurd hop q.2.2.1⟩
/-- no operation of this kind pays for crossing -/
theorem c61_no {s s1 : S_Proc} {c op mc o at_ : Int32} {T : Nat} {Φ : S_Proc → Prop} (k1 : Cm2 (wp_X5_addressOf (sP s 14 0) mc o) at_ s1) (hc : vp_in c 256) (ht : tab 2 c.toNatClampNeg = nI T) (hp : Cm1 (wp_X2_paysForCrossing op) 0) (h : wp_X5_carryOut_108 (sP s1 13 (nI T)) c op mc o at_ Φ) : wp_X5_carryOut_61 s c op mc o Φ := by
  refine k1 _ ⟨hc, ?_⟩
  rw [ht]
  exact ⟨fun _ => h, fun _ => hp _ ⟨fun _ => h, fun q => absurd rfl q⟩⟩
/-- .. and one that does -/
theorem c61_yes {s s1 : S_Proc} {c op mc o at_ : Int32} {T : Nat} {Φ : S_Proc → Prop} (k1 : Cm2 (wp_X5_addressOf (sP s 14 0) mc o) at_ s1) (hc : vp_in c 256) (ht : tab 2 c.toNatClampNeg = nI T) (hb : bl1 (s1.1 14)) (hp : Cm1 (wp_X2_paysForCrossing op) 1) (h : wp_X5_carryOut_108 (sP s1 13 (nI T + s1.1 14)) c op mc o at_ Φ) : wp_X5_carryOut_61 s c op mc o Φ := by
  refine k1 _ ⟨hc, ?_⟩
  rw [ht]
  rcases hb with e | e
  · rw [e, add0] at h
    exact ⟨fun _ => h, fun q => absurd e q⟩
  · rw [e] at h
    exact ⟨fun q => absurd (e.symm.trans q) (by decide), fun _ => hp _ ⟨fun q => absurd q (by decide), fun _ => h⟩⟩
theorem pays_w {op : Int32} (h1 : ¬ op >>> ((4 : Int32) &&& 31) = 0) (h2 : op < 32 ∨ 35 < op) : Cm1 (wp_X2_paysForCrossing op) 0 := fun _ hp => ⟨fun q => absurd q h1, fun _ => ⟨fun _ => hp, fun q => ⟨fun _ => hp, fun q2 => absurd h2 (by grind)⟩⟩⟩
theorem pays_s {op : Int32} (h2 : ¬ op < 32 ∧ ¬ 35 < op) (h1 : ¬ op >>> ((4 : Int32) &&& 31) = 0) : Cm1 (wp_X2_paysForCrossing op) 1 := fun _ hp => ⟨fun q => absurd q h1, fun _ => ⟨fun q => absurd q h2.1, fun _ => ⟨fun q => absurd q h2.2, fun _ => hp⟩⟩⟩
/-- storing: what is written is the same byte on both sides -/
theorem store_mem {K : Kp} {g : Nat} (hg : g < 2 ^ 30) {s : S_Proc} {u : S_Model} {mc o mm : Int32} (hA : AddrOK K g s u mc o mm) {c op : Int32} {T : Nat} (hc : vp_in c 256) (ht : tab 2 c.toNatClampNeg = nI T) (hop : op >>> ((4 : Int32) &&& 31) = 1) (ho : op < 32) (val : S_Model → Int32)
    (hv : ∀ (s1 : S_Proc) (u1 : S_Model), RR K g s1 u1 → by8 (val u1) ∧ Cm1 (wp_X5_stored s1 op) (val u1)) : ∃ at_ u1 s' u', Cm1 (wp_X5_carryOut_61 s c op mc o) s' ∧ Cm2 (wp_X9_address u mm) at_ u1 ∧ Cm1 (wp_X9_write u1 at_ (val u1)) u' ∧ RR K (g + 4) s' u' ∧ s'.1 13 = nI T := by
  obtain ⟨at_, s1, u1, hat, k1, k2, hR, hb, he, hs⟩ := hA
  have hR1 : RR K g (sP s1 13 (nI T)) u1 := hR.c13 _
  obtain ⟨v8, hst⟩ := hv _ _ hR1
  obtain ⟨b', u', w1, w2, hR2, hsame⟩ := hR1.write hg hat v8
  refine ⟨at_, u1, (upd s1.1 13 (nI T), s1.2.1, s1.2.2.1, b'), u', fun Φ hp => ?_, k2, w2, hR2.mono (by omega), rfl⟩
  exact c61_no k1 hc ht (pays_w (by rw [hop]; decide) (Or.inl ho)) (c108_1 hop (hst _ (w1 _ hp)))
theorem nIT {T : Nat} (h1 : 1 ≤ T) (h2 : T ≤ 8) : ∃ k : Nat, 1 ≤ k ∧ k ≤ 20 ∧ nI T = nI k := ⟨T, h1, by omega, rfl⟩
theorem ins_sta {K : Kp} {g : Nat} (hg : g < 2 ^ 30) {s : S_Proc} {u : S_Model} {c mc o mm : Int32} (hA : AddrOK K g s u mc o mm) {T : Nat} (hc : vp_in c 256) (ht : tab 2 c.toNatClampNeg = nI T) (h1 : 1 ≤ T) (h2 : T ≤ 8) (hw : Cm1 (wp_X9_wide c) mm) (hx : c >>> ((5 : Int32) &&& 31) = 4)
    (hn : ∀ Ψ : Int32 → Prop, Ψ (nI T) → ((mm = 5 → Ψ 5) ∧ (¬ mm = 5 → ((mm = 6 → Ψ 5) ∧ (¬ mm = 6 → ((mm = 8 → Ψ 6) ∧ (¬ mm = 8 → wp_X9_time mm Ψ))))))) : InsOK K g s c 16 mc o (wp_X9_alu u c) := by
  obtain ⟨at_, u1, s', u', k1, k2, k3, k4, k5⟩ := store_mem hg hA hc ht (op := 16) (by decide) (by decide) (fun u => u.2.2 2 0) (fun s1 u1 h => ⟨h.1.2.1.1, fun Φ hp => by simp [wp_X5_stored]; rw [h.1.1.1]; exact hp⟩)
  refine ⟨s', nI T, u', k1, fun Φ hp => ?_, k4, k5, nIT h1 h2⟩
  exact hw _ ⟨fun _ => k2 _ ⟨vp04, k3 _ (hn (fun n => Φ n u') hp)⟩, fun q => absurd hx q⟩
theorem ins_stx {K : Kp} {g : Nat} (hg : g < 2 ^ 30) {s : S_Proc} {u : S_Model} {c mc o mm : Int32} (hA : AddrOK K g s u mc o mm) {T : Nat} (hc : vp_in c 256) (ht : tab 2 c.toNatClampNeg = nI T) (h1 : 1 ≤ T) (h2 : T ≤ 8) (hn : Cm1 (wp_X9_time mm) (nI T)) : InsOK K g s c 17 mc o (wp_X9_shifts_78 u 4 mm) := by
  obtain ⟨at_, u1, s', u', k1, k2, k3, k4, k5⟩ := store_mem hg hA hc ht (op := 17) (by decide) (by decide) (fun u => u.2.2 2 1) (fun s1 u1 h => ⟨h.1.2.1.2.1, fun Φ hp => by simp [wp_X5_stored]; rw [h.1.1.2.1]; exact hp⟩)
  refine ⟨s', nI T, u', k1, fun Φ hp => ?_, k4, k5, nIT h1 h2⟩
  exact ⟨fun _ => k2 _ ⟨vp14, k3 _ (hn _ hp)⟩, fun q => absurd rfl q⟩
theorem ins_sty {K : Kp} {g : Nat} (hg : g < 2 ^ 30) {s : S_Proc} {u : S_Model} {c mc o mm : Int32} (hA : AddrOK K g s u mc o mm) {T : Nat} (hc : vp_in c 256) (ht : tab 2 c.toNatClampNeg = nI T) (h1 : 1 ≤ T) (h2 : T ≤ 8) (hn : Cm1 (wp_X9_time mm) (nI T)) : InsOK K g s c 18 mc o (fun Φ => wp_X9_address u mm (fun r31 u32 => vp_in 2 4 ∧ wp_X9_write u32 r31 (u32.2.2 2 (2 : Int32).toNatClampNeg) (fun u33 => wp_X9_time mm (fun r34 => Φ r34 u33)))) := by
  obtain ⟨at_, u1, s', u', k1, k2, k3, k4, k5⟩ := store_mem hg hA hc ht (op := 18) (by decide) (by decide) (fun u => u.2.2 2 2) (fun s1 u1 h => ⟨h.1.2.1.2.2.1, fun Φ hp => by simp [wp_X5_stored]; rw [h.1.1.2.2.1]; exact hp⟩)
  refine ⟨s', nI T, u', k1, fun Φ hp => ?_, k4, k5, nIT h1 h2⟩
  exact k2 _ ⟨vp24, k3 _ (hn _ hp)⟩
theorem ins_stz {K : Kp} {g : Nat} (hg : g < 2 ^ 30) {s : S_Proc} {u : S_Model} {c mc o mm : Int32} (hA : AddrOK K g s u mc o mm) {T : Nat} (hc : vp_in c 256) (ht : tab 2 c.toNatClampNeg = nI T) (h1 : 1 ≤ T) (h2 : T ≤ 8) (hn : ∀ Ψ : Int32 → Prop, Ψ (nI T) → ((mm = 5 → Ψ 5) ∧ (¬ mm = 5 → wp_X9_time mm Ψ))) : InsOK K g s c 19 mc o (wp_X9_zeroed u mm) := by
  obtain ⟨at_, u1, s', u', k1, k2, k3, k4, k5⟩ := store_mem hg hA hc ht (op := 19) (by decide) (by decide) (fun _ => 0) (fun s1 u1 h => ⟨by8_of (n := 0) (by omega), fun Φ hp => by simp [wp_X5_stored]; exact hp⟩)
  refine ⟨s', nI T, u', k1, fun Φ hp => ?_, k4, k5, nIT h1 h2⟩
  exact k2 _ (k3 _ (hn (fun n => Φ n u') hp))
/-! operations that change a byte -/
def ChOK (K : Kp) (g : Nat) (s : S_Proc) (u : S_Model) (op k what v : Int32) : Prop := ∃ r s' u', by8 r ∧ Cm2 (wp_X5_changed s op k v) r s' ∧ Cm2 (wp_X9_changed u what v) r u' ∧ RR K g s' u' ∧ s'.1 13 = s.1 13 ∧ u'.1 11 = u.1 11
theorem sh7 {v : Int32} (hv : by8 v) : v >>> ((7 : Int32) &&& 31) = 0 ↔ v ≤ 127 := by
  obtain ⟨n, hn, rfl⟩ := by8_nI hv
  have : ∀ n : Fin 256, (nI n.val >>> ((7 : Int32) &&& 31) = 0 ↔ nI n.val ≤ 127) := by decide +kernel
  exact this ⟨n, hn⟩
theorem sh1 {v : Int32} (hv : by8 v) : by8 (v >>> ((1 : Int32) &&& 31)) ∧ (v &&& 1 = 0 ∨ v &&& 1 = 1) := by
  obtain ⟨n, hn, rfl⟩ := by8_nI hv
  refine ⟨by rw [pk_shrN (by omega) ((1 : Int32) &&& 31) 1 rfl]; exact by8_of (by omega), ?_⟩
  rw [pk_andN (n := n) (by omega) (m := 1) 1 rfl]
  have : n % 2 ^ 1 = 0 ∨ n % 2 ^ 1 = 1 := by omega
  rcases this with e | e
  · rw [e]; exact Or.inl rfl
  · rw [e]; exact Or.inr rfl
theorem or0 (x : Int32) : x ||| 0 = x := by
  obtain ⟨n, hn, rfl⟩ := i32_nat x
  rw [show (0 : Int32) = nI 0 from rfl, nI_or, Nat.or_zero]
/-- the shifts' end -/
theorem cmC_shifted (s : S_Proc) (x : Int32) {C lv : Int32} (hC : bl1 C) (hl : lv = 0 ↔ C = 0) : Cm2 (wp_X5_shifted s x lv) (x &&& 255) (sP (sP s 4 (fl (s.1 4) 1 C)) 4 (shP (fl (s.1 4) 1 C) (x &&& 255))) := by
  intro Φ hp
  rcases hC with e | e
  · subst e
    exact ⟨fun _ => cmC_mark s 1 0 _ (cmC_shown _ _ _ hp), fun q => absurd (hl.mpr rfl) q⟩
  · subst e
    exact ⟨fun q => absurd (hl.mp q) (by decide), fun _ => cmC_mark s 1 1 _ (cmC_shown _ _ _ hp)⟩
theorem RR.shft {K : Kp} {g : Nat} {s : S_Proc} {u : S_Model} (h : RR K g s u) (C x : Int32) : RR K g (sP (sP s 4 (fl (s.1 4) 1 C)) 4 (shP (fl (s.1 4) 1 C) (x &&& 255))) (mI (mI u 3 (fl (u.1 3) 1 C)) 3 (nzM (fl (u.1 3) 1 C) (x &&& 255))) := (h.mark 1 C (by decide) by8_1).shown (by8_and x)
theorem c127 {v : Int32} (hv : by8 v) : ∃ C : Int32, bl1 C ∧ (v >>> ((7 : Int32) &&& 31) = 0 ↔ C = 0) ∧ (v ≤ 127 ↔ C = 0) := by
  by_cases e : v ≤ 127
  · exact ⟨0, Or.inl rfl, by simp [sh7 hv, e], by simp [e]⟩
  · exact ⟨1, Or.inr rfl, by rw [sh7 hv]; exact ⟨fun q => absurd q e, fun q => absurd q (by decide)⟩, ⟨fun q => absurd q e, fun q => absurd q (by decide)⟩⟩
theorem m23 {u : S_Model} {what v c1 C : Int32} {Φ : Int32 → S_Model → Prop} (hC : bl1 C) (hl : v ≤ 127 ↔ C = 0) (hw : ¬ (2 : Int32) ≤ what) (h : wp_X9_changed_23 u what v (u.1 3 &&& 1) 1 C Φ) : wp_X9_changed u what v Φ := by
  refine ⟨fun q => absurd q hw, fun _ => ⟨fun q => ?_, fun q => ?_⟩⟩
  · rw [hl.mp q] at h; exact h
  · rw [hC.resolve_left (fun z => q (hl.mpr z))] at h; exact h
theorem ch_ASL {K : Kp} {g : Nat} {s : S_Proc} {u : S_Model} (h : RR K g s u) (k : Int32) {v : Int32} (hv : by8 v) : ChOK K g s u 32 k 0 v := by
  obtain ⟨C, hC, h1, h2⟩ := c127 hv
  refine ⟨(v <<< ((1 : Int32) &&& 31)) &&& 255, _, _, by8_and _, fun Φ hp => ?_, fun Φ hp => ?_, h.shft C (v <<< ((1 : Int32) &&& 31)), rfl, rfl⟩
  · simp [wp_X5_changed]; exact cmC_shifted s _ hC h1 _ hp
  · refine m23 (c1 := 0) hC h2 (by decide) (cmM_flag u 1 C _ ⟨fun q => absurd q (by decide), fun _ v11 e11 => ?_⟩)
    rw [e11, or0]
    exact cmM_tested _ _ _ hp
theorem ch_ROL {K : Kp} {g : Nat} {s : S_Proc} {u : S_Model} (h : RR K g s u) (k : Int32) {v : Int32} (hv : by8 v) : ChOK K g s u 33 k 1 v := by
  obtain ⟨C, hC, h1, h2⟩ := c127 hv
  have e1 : s.1 4 &&& 1 = u.1 3 &&& 1 := h.pbit (by decide)
  refine ⟨((v <<< ((1 : Int32) &&& 31)) ||| (s.1 4 &&& 1)) &&& 255, _, _, by8_and _, fun Φ hp => ?_, fun Φ hp => ?_, h.shft C ((v <<< ((1 : Int32) &&& 31)) ||| (s.1 4 &&& 1)), rfl, rfl⟩
  · simp [wp_X5_changed]; exact cmC_shifted s _ hC h1 _ hp
  · refine m23 (c1 := 0) hC h2 (by decide) (cmM_flag u 1 C _ ⟨fun _ v14 e14 => ?_, fun q => absurd rfl q⟩)
    rw [e14, ← e1]
    exact cmM_tested _ _ _ hp
theorem m68 {u : S_Model} {what v C : Int32} {Φ : Int32 → S_Model → Prop} (hC : v &&& 1 = C) (hb : C = 0 ∨ C = 1) (hw : (2 : Int32) ≤ what) (hw4 : ¬ (4 : Int32) ≤ what) (h : wp_X9_changed_68 u what v (u.1 3 &&& 1) 1 C Φ) : wp_X9_changed u what v Φ := by
  refine ⟨fun _ => ⟨fun q => absurd q hw4, fun _ => ⟨fun q => ?_, fun q => ?_⟩⟩, fun q => absurd hw q⟩
  · rw [hC.symm.trans q] at h; exact h
  · rw [hb.resolve_right (fun z => q (hC.trans z))] at h; exact h
theorem ch_LSR {K : Kp} {g : Nat} {s : S_Proc} {u : S_Model} (h : RR K g s u) (k : Int32) {v : Int32} (hv : by8 v) : ChOK K g s u 34 k 2 v := by
  obtain ⟨b1, b2⟩ := sh1 hv
  refine ⟨(v >>> ((1 : Int32) &&& 31)) &&& 255, _, _, by8_and _, fun Φ hp => ?_, fun Φ hp => ?_, h.shft (v &&& 1) (v >>> ((1 : Int32) &&& 31)), rfl, rfl⟩
  · simp [wp_X5_changed]; exact cmC_shifted s _ b2 Iff.rfl _ hp
  · refine m68 rfl b2 (by decide) (by decide) (cmM_flag u 1 _ _ ⟨fun q => absurd q (by decide), fun _ v3 e3 => ?_⟩)
    rw [e3, or0]
    rw [b1.and] at hp
    exact cmM_tested _ _ _ hp
theorem ror8 {v c1 : Int32} (hv : by8 v) (hc : c1 = 0 ∨ c1 = 1) : by8 ((v >>> ((1 : Int32) &&& 31)) ||| (c1 <<< ((7 : Int32) &&& 31))) := by
  refine by8_or (sh1 hv).1 ?_
  rcases hc with rfl | rfl
  · exact by8_of (n := 0) (by omega)
  · exact by8_of (n := 128) (by omega)
theorem ch_ROR {K : Kp} {g : Nat} {s : S_Proc} {u : S_Model} (h : RR K g s u) (k : Int32) {v : Int32} (hv : by8 v) : ChOK K g s u 35 k 3 v := by
  obtain ⟨b1, b2⟩ := sh1 hv
  have e1 : s.1 4 &&& 1 = u.1 3 &&& 1 := h.pbit (by decide)
  have b3 := ror8 (c1 := s.1 4 &&& 1) hv (by rw [e1]; exact (sh1 h.1.2.1.2.2.2.2.1).2)
  refine ⟨((v >>> ((1 : Int32) &&& 31)) ||| ((s.1 4 &&& 1) <<< ((7 : Int32) &&& 31))) &&& 255, _, _, by8_and _, fun Φ hp => ?_, fun Φ hp => ?_, h.shft (v &&& 1) ((v >>> ((1 : Int32) &&& 31)) ||| ((s.1 4 &&& 1) <<< ((7 : Int32) &&& 31))), rfl, rfl⟩
  · simp [wp_X5_changed]; exact cmC_shifted s _ b2 Iff.rfl _ hp
  · refine m68 rfl b2 (by decide) (by decide) (cmM_flag u 1 _ _ ⟨fun _ v6 e6 => ?_, fun q => absurd rfl q⟩)
    rw [e6, ← e1]
    rw [b3.and] at hp
    exact cmM_tested _ _ _ hp
theorem ch_INC {K : Kp} {g : Nat} {s : S_Proc} {u : S_Model} (h : RR K g s u) (k : Int32) {v : Int32} {what : Int32} (hw : (4 : Int32) ≤ what) (h6 : ¬ what = 6) : ChOK K g s u 36 k what v := by
  refine ⟨(v + 1) &&& 255, _, _, by8_and _, fun Φ hp => ?_, fun Φ hp => ?_, h.shown (by8_and (v + 1)), rfl, rfl⟩
  · simp [wp_X5_changed]; exact cmC_shown s _ _ hp
  · exact ⟨fun _ => ⟨fun _ => ⟨fun q => absurd q h6, fun _ => cmM_tested _ _ _ hp⟩, fun q => absurd hw q⟩, fun q => absurd hw (by grind)⟩
theorem ch_DEC {K : Kp} {g : Nat} {s : S_Proc} {u : S_Model} (h : RR K g s u) (k : Int32) {v : Int32} : ChOK K g s u 37 k 6 v := by
  refine ⟨(v - 1) &&& 255, _, _, by8_and _, fun Φ hp => ?_, fun Φ hp => ?_, h.shown (by8_and (v - 1)), rfl, rfl⟩
  · simp [wp_X5_changed]; exact cmC_shown s _ _ hp
  · rw [show v - 1 = v + -1 by grind] at hp
    exact ⟨fun _ => ⟨fun _ => ⟨fun _ => cmM_tested _ _ _ hp, fun q => absurd rfl q⟩, fun q => absurd (by decide) q⟩, fun q => absurd (by decide) q⟩
/-- on A -/
theorem ins_chA {K : Kp} {g : Nat} {s : S_Proc} {u : S_Model} (h : RR K g s u) {c op o what : Int32} (hc : vp_in c 256) (ht : tab 2 c.toNatClampNeg = nI 2) (hop : op >>> ((4 : Int32) &&& 31) = 2) (hU : ∀ {s2 : S_Proc} {u2 : S_Model}, RR K g s2 u2 → ∀ (k : Int32) {v : Int32}, by8 v → ChOK K g s2 u2 op k what v) : InsOK K g s c op 1 o (wp_X9_change u what 10) := by
  have hR1 : RR K g (sP (sP s 14 0) 13 (nI 2)) u := (h.c14 0).c13 _
  obtain ⟨r, s', u', hr, k1, k2, k3, k4, -⟩ := hU hR1 ((c >>> ((4 : Int32) &&& 31)) &&& 7) h.1.2.1.1
  refine ⟨sP s' 0 r, nI 2, mR u' 0 r, fun Φ hp => ?_, fun Φ hp => ⟨fun _ => ⟨vp04, k2 _ ⟨vp04, hp⟩⟩, fun q => absurd rfl q⟩, (k3.r0 hr).mono (by omega), k4, nIT (by omega) (by omega)⟩
  have ka : Cm2 (wp_X5_addressOf (sP s 14 0) 1 o) o (sP s 14 0) := fun Φ hp => by simp [wp_X5_addressOf]; exact hp
  refine ka _ ⟨hc, fun _ => ?_, fun q => absurd rfl q⟩
  rw [ht]
  refine c108_2 hop ⟨fun _ => ?_, fun q => absurd rfl q⟩
  have e0 : (sP (sP s 14 0) 13 (nI 2)).1 0 = u.2.2 2 0 := h.1.1.1
  rw [e0]
  exact k1 _ hp
