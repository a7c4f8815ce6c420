/-! an instruction: its address noted, its bytes read, then what it does -/
theorem trace_ix {t : Nat} (h : t < 2 ^ 31) : nI t - nI t / 32 * 32 = nI (t % 32) ∧ nI t &&& 31 = nI (t % 32) := ⟨pk_rem (a := t) (d := 32) h (by omega) (by omega), pk_andN (n := t) (by omega) (m := 31) 5 rfl⟩
/-- the address noted on both sides -/
theorem RR.note {K : Kp} {g : Nat} (hg : g < 2 ^ 30) {s : S_Proc} {u : S_Model} (h : RR K g s u) : ∃ (q : S_Trace) (i : Nat), i < 32 ∧ Cm1 (wp_X7_note s.2.2.1 (s.1 5)) q ∧ (u.1 30 - u.1 30 / 32 * 32 = nI i) ∧ RR K (g + 1) (s.1, s.2.1, q, s.2.2.2) (upd u.1 30 (u.1 30 + 1), vp_updL u.2.1 27 (u.2.1 27 + 1), va_up u.2.2 32 (upd (u.2.2 32) i (u.1 4))) := by
  obtain ⟨⟨a, b, ⟨t, ht, x1, x2⟩⟩, hcy, ⟨hk, ⟨t', ht', k1, k2, k3⟩, hd⟩, hb⟩ := h
  obtain ⟨y1, y2⟩ := trace_ix (t := t') (by omega)
  have e5 := a.2.2.2.2.2.1
  refine ⟨(upd s.2.2.1.1 0 (nI (t' + 1)), upd s.2.2.1.2 (t' % 32) (s.1 5)), t' % 32, by omega, fun Φ hp => ?_, by rw [k2]; exact y1, ⟨⟨a, b, ⟨t, by omega, x1, x2⟩⟩, hcy, ⟨hk, ⟨t' + 1, by omega, rfl, ?_, ?_⟩, fun j hj => ?_⟩, hb.mono (by omega)⟩⟩
  · unfold wp_X7_note
    rw [k1, y2]
    refine ⟨vp_in_nI (by omega) (by omega), ?_⟩
    rw [nI_clamp (by omega), nI_1]
    exact hp
  · show u.1 30 + 1 = _
    rw [k2, nI_1]
  · show vp_updL u.2.1 27 (u.2.1 27 + 1) 27 = _
    rw [pk_uLs, k3, lN_1]
  · show upd s.2.2.1.2 (t' % 32) (s.1 5) j = upd (u.2.2 32) (t' % 32) (u.1 4) j
    by_cases e : j = t' % 32
    · rw [e, pk_us, pk_us]; exact e5
    · rw [pk_un e, pk_un e]; exact hd j hj
theorem pc_step {p : Int32} (hp : wd16 p) (n : Nat) (hn : n ≤ 2) : (((p + nI n) &&& 65535) + 1) &&& 65535 = (p + nI (n + 1)) &&& 65535 := by
  obtain ⟨a, ha, rfl⟩ := wd16_nI hp
  rw [nI_add, nI_add, mask_nextw (y := nI (a + n)) (nI_pos' (by omega)) (nI_le (a := a + n) (b := 100000) (by omega) (by omega)), nI_1]
  rfl
theorem odd_eq : ∀ k : Fin 256, ((nI k.val >>> ((4 : Int32) &&& 31)) &&& 1 = nI (k.val / 16 % 2)) := by decide +kernel
/-- behind the bytes: the model's last stretch before the switch -/
theorem m110 {K : Kp} {g : Nat} (hg : g < 2 ^ 30 - 8) {s : S_Proc} {u : S_Model} (h : RR K g s u) {o : Int32} {k : Nat} (hk : k < 256) (ho2 : szN k = 2 → by8 o ∧ u.1 9 = o) (ho3 : szN k = 3 → wd16 o ∧ u.1 9 = o &&& 255) : InsOK K g (sP s 5 ((u.1 4 + nI (szN k)) &&& 65535)) (nI k) (tab 0 k) (tab 1 k) o (wp_X9_instruction_110 u (nI k) (nI (szN k)) o) := by
  have hR := (h.m10 o).pc (wd16_and (u.1 4 + nI (szN k)))
  have hI := ins_all hg hR (o := o) k hk ⟨fun e => ⟨(ho2 e).1, (ho2 e).2⟩, fun e => ⟨(ho3 e).1, rfl, (ho3 e).2⟩⟩
  refine hI.via (fun Φ hp v73 e73 => ?_)
  rw [odd_eq ⟨k, hk⟩] at e73
  have : k / 16 % 2 = 0 ∨ k / 16 % 2 = 1 := by omega
  rcases this with e | e
  · rw [e] at e73 hp
    exact ⟨fun q => absurd (e73.symm.trans q) (by decide), fun _ => hp⟩
  · rw [e] at e73 hp
    exact ⟨fun _ => hp, fun q => absurd e73 q⟩
theorem or_lo {a b : Int32} (ha : by8 a) (hb : by8 b) : (a ||| (b <<< ((8 : Int32) &&& 31))) &&& 255 = a := by
  obtain ⟨x, hx, rfl⟩ := by8_nI ha
  obtain ⟨y, hy, rfl⟩ := by8_nI hb
  rw [pk_shlN ((8 : Int32) &&& 31) 8 rfl (by omega), nI_or, pk_andN (n := x ||| y * 2 ^ 8) (Nat.or_lt_two_pow (n := 32) (by omega) (by omega)) (m := 255) 8 rfl]
  congr 1
  rw [Nat.or_mod_two_pow, Nat.mul_mod_left, Nat.or_zero, Nat.mod_eq_of_lt hx]
theorem sim_instr {K : Kp} {g : Nat} (hg : g < 2 ^ 30 - 16) {s : S_Proc} {u : S_Model} (h : RR K g s u) : ∃ s' n u', Cm1 (wp_X5_carryOut s) s' ∧ Cm2 (wp_X9_instruction u) n u' ∧ RR K (g + 5) s' u' ∧ s'.1 13 = n ∧ ∃ k : Nat, 1 ≤ k ∧ k ≤ 20 ∧ n = nI k := by
  obtain ⟨q, i, hi, n1, n2, hN⟩ := h.note (by omega)
  have w4 := h.1.2.1.2.2.2.2.2.1
  have e5 := h.1.1.2.2.2.2.2.1
  -- the code
  obtain ⟨c, b1, u1, hc8, r1, r2, hR1, hs1⟩ := hN.read w4
  obtain ⟨k, hk, rfl⟩ := by8_nI hc8
  obtain ⟨z1, z2, z3, z4, z5⟩ := sz_ok ⟨k, hk⟩
  have z1 : szF (nI k) = nI (szN k) := z1
  have z2 : tab 1 k < 2 ↔ szN k = 1 := z2
  have z3 : tab 1 k < 10 ↔ szN k ≤ 2 := z3
  have z4 : 1 ≤ szN k := z4
  have z5 : szN k ≤ 3 := z5
  have e41 : u1.1 4 = u.1 4 := hs1.1.2.2.1
  have hcl : (nI k).toNatClampNeg = k := nI_clamp (by omega)
  have hvp : vp_in (nI k) 256 := vp_in_nI hk (by omega)
  have p1 : (s.1 5 + 1) &&& 65535 = (u.1 4 + nI 1) &&& 65535 := by rw [e5]; rfl
  -- both sides from behind the code
  have key : ∀ (P : (Int32 → S_Model → Prop) → Prop) (C : (S_Proc → Prop) → Prop),
      (∃ s' n u', Cm1 C s' ∧ Cm2 P n u' ∧ RR K (g + 5) s' u' ∧ s'.1 13 = n ∧ ∃ k : Nat, 1 ≤ k ∧ k ≤ 20 ∧ n = nI k) →
      (∀ Φ, C Φ → ((tab 1 k < 2 → wp_X5_carryOut_41 (upd s.1 5 ((u.1 4 + nI 1) &&& 65535), s.2.1, q, b1) (nI k) (tab 0 k) (tab 1 k) 0 Φ) ∧ (¬ tab 1 k < 2 → wp_X5_fetch (upd s.1 5 ((u.1 4 + nI 1) &&& 65535), s.2.1, q, b1) (fun r36 u37 => wp_X5_carryOut_41 u37 (nI k) (tab 0 k) (tab 1 k) r36 Φ)))) →
      (∀ Φ, P Φ → ((nI (szN k) ≤ 1 → wp_X9_instruction_73 u1 (nI k) (nI (szN k)) 0 Φ) ∧ (¬ nI (szN k) ≤ 1 → ∀ v83 : Int32, v83 = (u1.1 4 + 1) &&& 65535 → wp_X9_read u1 v83 (fun r84 u85 => wp_X9_instruction_73 u85 (nI k) (nI (szN k)) r84 Φ)))) →
      ∃ s' n u', Cm1 (wp_X5_carryOut s) s' ∧ Cm2 (wp_X9_instruction u) n u' ∧ RR K (g + 5) s' u' ∧ s'.1 13 = n ∧ ∃ k : Nat, 1 ≤ k ∧ k ≤ 20 ∧ n = nI k := by
    intro P C ⟨s', n, u', k1, k2, k3, k4, k5⟩ hC hP
    refine ⟨s', n, u', fun Φ hp => ?_, fun Φ hp => ?_, k3, k4, k5⟩
    · refine n1 _ ?_
      have r1' := r1
      rw [← e5] at r1'
      refine r1' _ ⟨hvp, hvp, ?_⟩
      simp only [hcl]
      have := hC Φ (k1 Φ hp)
      rw [← p1] at this
      exact this
    · intro v78 e78
      rw [n2] at e78
      rw [e78]
      refine ⟨vp_in_nI hi (by omega), ?_⟩
      rw [nI_clamp (by omega)]
      refine r2 _ (cm_size _ _ ?_)
      rw [z1]
      exact hP Φ (k2 Φ hp)
  by_cases h1 : szN k = 1
  · -- one byte
    have hI := m110 (g := g + 1) (by omega) (hR1.m9 0) (o := 0) hk (fun e => absurd (h1.symm.trans e) (by decide)) (fun e => absurd (h1.symm.trans e) (by decide))
    rw [h1] at hI
    have e41' : (mI u1 9 0).1 4 = u.1 4 := e41
    rw [e41'] at hI
    obtain ⟨s', n, u', k1, k2, k3, k4, k5⟩ := hI
    refine key _ _ ⟨s', n, u', k1, k2, k3.mono (by omega), k4, k5⟩ (fun Φ hp => ⟨fun _ => ⟨fun _ => hp, fun z => absurd (z3.mpr (by omega)) z⟩, fun z => absurd (z2.mpr h1) z⟩) (fun Φ hp => ?_)
    rw [h1]
    exact ⟨fun _ => ⟨fun _ => hp, fun z => absurd (by decide) z⟩, fun z => absurd (by decide) z⟩
  · -- the second byte
    have wp1 : wd16 ((u.1 4 + nI 1) &&& 65535) := wd16_and _
    obtain ⟨bb, b2, u2, hb8, r3, r4, hR2, hs2⟩ := hR1.read wp1
    have e42 : u2.1 4 = u.1 4 := hs2.1.2.2.1.trans e41
    have p2 : (((u.1 4 + nI 1) &&& 65535) + 1) &&& 65535 = (u.1 4 + nI 2) &&& 65535 := pc_step w4 1 (by omega)
    have nle : ¬ nI (szN k) ≤ 1 := by rw [show (1 : Int32) = nI 1 from rfl, nI_leI (by omega) (by omega)]; omega
    by_cases h2 : szN k = 2
    · have hI := m110 (g := g + 1) (by omega) (hR2.m9 bb) (o := bb) hk (fun e => ⟨hb8, rfl⟩) (fun e => absurd (h2.symm.trans e) (by decide))
      rw [h2] at hI
      have e42' : (mI u2 9 bb).1 4 = u.1 4 := e42
      rw [e42'] at hI
      obtain ⟨s', n, u', k1, k2, k3, k4, k5⟩ := hI
      refine key _ _ ⟨s', n, u', k1, k2, k3.mono (by omega), k4, k5⟩ (fun Φ hp => ⟨fun z => absurd (z2.mp z) h1, fun _ => r3 _ ⟨fun _ => ?_, fun z => absurd (z3.mpr (by omega)) z⟩⟩) (fun Φ hp => ?_)
      · show wp_X5_carryOut_61 (upd (upd s.1 5 ((u.1 4 + nI 1) &&& 65535)) 5 ((((u.1 4 + nI 1) &&& 65535) + 1) &&& 65535), s.2.1, q, b2) _ _ _ _ Φ
        rw [upd_upd, p2]
        exact hp
      · refine ⟨fun z => absurd z nle, fun _ v83 e83 => ?_⟩
        rw [e83, e41]
        refine r4 _ ?_
        rw [h2]
        exact ⟨fun _ => hp, fun z => absurd (by decide) z⟩
    · have h3 : szN k = 3 := by omega
      have wp2 : wd16 ((u.1 4 + nI 2) &&& 65535) := wd16_and _
      obtain ⟨hh, b3, u3, hh8, r5, r6, hR3, hs3⟩ := (hR2.m9 bb).read wp2
      have e43 : u3.1 4 = u.1 4 := hs3.1.2.2.1.trans e42
      have p3 : (((u.1 4 + nI 2) &&& 65535) + 1) &&& 65535 = (u.1 4 + nI 3) &&& 65535 := pc_step w4 2 (by omega)
      have hI := m110 (g := g + 1) (by omega) hR3 (o := bb ||| (hh <<< ((8 : Int32) &&& 31))) hk (fun e => absurd e h2) (fun e => ⟨word_or hb8 hh8, by rw [or_lo hb8 hh8]; exact hs3.1.2.2.2.2.2.2.1⟩)
      rw [h3, e43] at hI
      obtain ⟨s', n, u', k1, k2, k3, k4, k5⟩ := hI
      refine key _ _ ⟨s', n, u', k1, k2, k3.mono (by omega), k4, k5⟩ (fun Φ hp => ⟨fun z => absurd (z2.mp z) h1, fun _ => r3 _ ⟨fun z => absurd (z3.mp z) (by omega), fun _ => ?_⟩⟩) (fun Φ hp => ?_)
      · show wp_X0_read b2 ((((u.1 4 + nI 1) &&& 65535) + 1) &&& 65535) _
        rw [p2]
        refine r5 _ ?_
        show wp_X5_carryOut_61 (upd (upd (upd s.1 5 ((u.1 4 + nI 1) &&& 65535)) 5 ((((u.1 4 + nI 1) &&& 65535) + 1) &&& 65535)) 5 ((((((u.1 4 + nI 1) &&& 65535) + 1) &&& 65535) + 1) &&& 65535), s.2.1, q, b3) _ _ _ _ Φ
        rw [upd_upd, upd_upd, p2, p3]
        exact hp
      · refine ⟨fun z => absurd z nle, fun _ v83 e83 => ?_⟩
        rw [e83, e41]
        refine r4 _ ?_
        rw [h3]
        refine ⟨fun z => absurd z (by decide), fun _ => ?_⟩
        rw [e42]
        exact r6 _ hp
