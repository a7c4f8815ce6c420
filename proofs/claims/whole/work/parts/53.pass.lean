/-! the timers, n cycles on -/
def ob (i f : Int32) (b : Bool) : Int32 := if b then i ||| f else i
def S1 (L : Int32) (F : Bool) (c a : Int32) : Nat → Int32 × Int32 × Bool
  | 0 => (c, a, false)
  | n + 1 => if (S1 L F c a n).1 = 0 then ((if F then L else 65535), (if (S1 L F c a n).2.1 = 0 then 0 else if F then 1 else 0), ((S1 L F c a n).2.2 || !decide ((S1 L F c a n).2.1 = 0))) else ((S1 L F c a n).1 - 1, (S1 L F c a n).2.1, (S1 L F c a n).2.2)
def S2 (c a : Int32) : Nat → Int32 × Int32 × Bool
  | 0 => (c, a, false)
  | n + 1 => if (S2 c a n).1 = 0 then (65535, 0, ((S2 c a n).2.2 || !decide ((S2 c a n).2.1 = 0))) else ((S2 c a n).1 - 1, (S2 c a n).2.1, (S2 c a n).2.2)
theorem or_idem (i f : Int32) : (i ||| f) ||| f = i ||| f := by
  rw [i32_or_assoc]
  obtain ⟨n, hn, rfl⟩ := i32_nat f
  rw [nI_or, Nat.or_self]
theorem or_swap (i f g : Int32) : (i ||| f) ||| g = (i ||| g) ||| f := by rw [i32_or_assoc, i32_or_comm f, ← i32_or_assoc]
theorem ob_step (i : Int32) (b1 b2 t1 t2 : Bool) : ob (ob (ob (ob i 64 b1) 32 b2) 64 t1) 32 t2 = ob (ob i 64 (b1 || t1)) 32 (b2 || t2) := by
  cases b1 <;> cases b2 <;> cases t1 <;> cases t2 <;> simp only [ob, if_true, if_false, Bool.or_true, Bool.or_false, Bool.false_eq_true, Bool.or_self, or_idem]
  all_goals first | (rw [or_swap]; done) | (rw [or_swap, or_idem]; done) | (rw [or_swap, or_idem, or_swap]; done) | (rw [or_swap (i ||| 64), or_idem, or_idem]; done)
theorem S1_bl {L : Int32} {F : Bool} {c a : Int32} (ha : bl1 a) : ∀ n, bl1 (S1 L F c a n).2.1
  | 0 => ha
  | n + 1 => by
    unfold S1
    split
    · show bl1 (if _ then 0 else if F then 1 else 0)
      split
      · exact Or.inl rfl
      · split
        · exact Or.inr rfl
        · exact Or.inl rfl
    · exact S1_bl ha n
theorem S2_bl {c a : Int32} (ha : bl1 a) : ∀ n, bl1 (S2 c a n).2.1
  | 0 => ha
  | n + 1 => by
    unfold S2
    split
    · exact Or.inl rfl
    · exact S2_bl ha n
theorem wd_pred {x : Int32} (h : wd16 x) (h0 : ¬ x = 0) : wd16 (x - 1) := by
  obtain ⟨n, hn, rfl⟩ := wd16_nI h
  have : n ≠ 0 := fun e => h0 (by rw [e]; rfl)
  obtain ⟨k, rfl⟩ : ∃ k, n = k + 1 := ⟨n - 1, by omega⟩
  rw [nI_pred]; exact wd16_of (by omega)
theorem S1_wd {L : Int32} {F : Bool} {c a : Int32} (hc : wd16 c) (hL : wd16 L) : ∀ n, wd16 (S1 L F c a n).1
  | 0 => hc
  | n + 1 => by
    unfold S1
    split
    · show wd16 (if F then L else 65535)
      split
      · exact hL
      · exact ⟨by decide, by decide⟩
    · rename_i h; exact wd_pred (S1_wd hc hL n) h
theorem S2_wd {c a : Int32} (hc : wd16 c) : ∀ n, wd16 (S2 c a n).1
  | 0 => hc
  | n + 1 => by
    unfold S2
    split
    · show wd16 65535
      exact ⟨by decide, by decide⟩
    · rename_i h; exact wd_pred (S2_wd hc n) h
theorem S1_sub {L : Int32} {F : Bool} {a : Int32} {m : Nat} (hm : m < 65536) : ∀ n, n ≤ m → S1 L F (nI m) a n = (nI (m - n), a, false)
  | 0, _ => rfl
  | n + 1, h => by
    have ih := S1_sub (L := L) (F := F) (a := a) hm n (by omega)
    unfold S1
    rw [ih]
    obtain ⟨k, hk⟩ : ∃ k, m - n = k + 1 := ⟨m - n - 1, by omega⟩
    rw [if_neg (by show ¬ nI (m - n) = 0; rw [hk]; exact nI_ne0 (by omega) (by omega))]
    show (nI (m - n) - 1, a, false) = _
    rw [hk, nI_pred, show m - (n + 1) = k by omega]
theorem S2_sub {a : Int32} {m : Nat} (hm : m < 65536) : ∀ n, n ≤ m → S2 (nI m) a n = (nI (m - n), a, false)
  | 0, _ => rfl
  | n + 1, h => by
    have ih := S2_sub (a := a) hm n (by omega)
    unfold S2
    rw [ih]
    obtain ⟨k, hk⟩ : ∃ k, m - n = k + 1 := ⟨m - n - 1, by omega⟩
    rw [if_neg (by show ¬ nI (m - n) = 0; rw [hk]; exact nI_ne0 (by omega) (by omega))]
    show (nI (m - n) - 1, a, false) = _
    rw [hk, nI_pred, show m - (n + 1) = k by omega]
/-! the class -/
/-- t is t0 but for counter 1's places -/
def T1 (t t0 : Nat → Int32) (q : Int32 × Int32 × Bool) : Prop := t 0 = q.1 ∧ t 7 = q.2.1 ∧ t 3 = ob (t0 3) 64 q.2.2 ∧ t 1 = t0 1 ∧ t 2 = t0 2 ∧ t 4 = t0 4 ∧ t 5 = t0 5 ∧ t 6 = t0 6 ∧ t 8 = t0 8
def T2 (t t0 : Nat → Int32) (q : Int32 × Int32 × Bool) : Prop := t 1 = q.1 ∧ t 8 = q.2.1 ∧ t 3 = ob (t0 3) 32 q.2.2 ∧ t 0 = t0 0 ∧ t 2 = t0 2 ∧ t 4 = t0 4 ∧ t 5 = t0 5 ∧ t 6 = t0 6 ∧ t 7 = t0 7
theorem ob_or (i : Int32) (b : Bool) (f : Int32) : ob i f b ||| f = ob i f (b || true) := by
  cases b
  · rfl
  · exact or_idem i f
theorem tick1 {t t0 : Nat → Int32} {F : Bool} (hF : (t0 6 &&& 64 = 0 ↔ F = false)) {c a : Int32} {n : Nat} (h : T1 t t0 (S1 (t0 2) F c a n)) : ∃ t', Cm1 (wp_X6_passOneOf1 t) t' ∧ T1 t' t0 (S1 (t0 2) F c a (n + 1)) := by
  obtain ⟨h0, h7, h3, h1, h2, h4, h5, h6, h8⟩ := h
  by_cases e0 : (S1 (t0 2) F c a n).1 = 0
  · have z0 : t 0 = 0 := h0.trans e0
    obtain ⟨Fi, eFi⟩ : ∃ Fi : Int32, Fi = if F then (1 : Int32) else 0 := ⟨_, rfl⟩
    have bFi : bl1 Fi := by rw [eFi]; split; exact Or.inr rfl; exact Or.inl rfl
    obtain ⟨nc, enc⟩ : ∃ nc : Int32, nc = if F then t0 2 else 65535 := ⟨_, rfl⟩
    -- the way to block 48
    have way : ∀ Φ : (Nat → Int32) → Prop, wp_X6_passOneOf1_48 t Fi nc Φ → wp_X6_passOneOf1 t Φ := by
      intro Φ hp
      cases F
      · simp only [Bool.false_eq_true, if_false] at eFi enc
        subst eFi; subst enc
        exact ⟨fun _ => ⟨fun _ => ⟨fun _ => hp, fun q => absurd rfl q⟩, fun q => absurd (by rw [h6]; exact hF.mpr rfl) q⟩, fun q => absurd z0 q⟩
      · simp only [if_true] at eFi enc
        subst eFi; subst enc
        refine ⟨fun _ => ⟨fun q => absurd (hF.mp (by rw [← h6]; exact q)) (by decide), fun _ => ⟨fun q => absurd q (by decide), fun _ => ?_⟩⟩, fun q => absurd z0 q⟩
        rw [h2]; exact hp
    by_cases e7 : (S1 (t0 2) F c a n).2.1 = 0
    · have z7 : t 7 = 0 := h7.trans e7
      refine ⟨upd t 0 nc, fun Φ hp => way Φ ⟨fun _ => hp, fun q => absurd z7 q⟩, ?_⟩
      unfold S1
      rw [if_pos e0]
      refine ⟨enc, ?_, ?_, h1, h2, h4, h5, h6, h8⟩
      · show t 7 = if _ then 0 else _
        rw [if_pos e7, z7]
      · show t 3 = ob _ _ (_ || _)
        rw [h3, decide_eq_true e7]
        simp
    · have z7 : ¬ t 7 = 0 := fun z => e7 (h7.symm.trans z)
      refine ⟨upd (upd (upd t 0 nc) 3 (t 3 ||| 64)) 7 Fi, fun Φ hp => way Φ ⟨fun q => absurd q z7, fun _ => ⟨bl_ok bFi, hp⟩⟩, ?_⟩
      unfold S1
      rw [if_pos e0]
      refine ⟨enc, ?_, ?_, h1, h2, h4, h5, h6, h8⟩
      · show Fi = if _ then 0 else _
        rw [if_neg e7, eFi]
      · show t 3 ||| 64 = ob _ _ (_ || _)
        rw [h3, ob_or, decide_eq_false e7]
        rfl
  · have z0 : ¬ t 0 = 0 := fun z => e0 (h0.symm.trans z)
    refine ⟨upd t 0 (t 0 - 1), fun Φ hp => ⟨fun q => absurd q z0, fun _ => hp⟩, ?_⟩
    unfold S1
    rw [if_neg e0]
    exact ⟨by show t 0 - 1 = _; rw [h0], h7, h3, h1, h2, h4, h5, h6, h8⟩
theorem tick2 {t t0 : Nat → Int32} {c a : Int32} {n : Nat} (h : T2 t t0 (S2 c a n)) : ∃ t', Cm1 (wp_X6_passOneOf2 t) t' ∧ T2 t' t0 (S2 c a (n + 1)) := by
  obtain ⟨h1, h8, h3, h0, h2, h4, h5, h6, h7⟩ := h
  by_cases e0 : (S2 c a n).1 = 0
  · have z0 : t 1 = 0 := h1.trans e0
    by_cases e7 : (S2 c a n).2.1 = 0
    · have z7 : t 8 = 0 := h8.trans e7
      refine ⟨upd t 1 65535, fun Φ hp => ⟨fun _ => ⟨fun _ => hp, fun q => absurd z7 q⟩, fun q => absurd z0 q⟩, ?_⟩
      unfold S2
      rw [if_pos e0]
      refine ⟨rfl, z7, ?_, h0, h2, h4, h5, h6, h7⟩
      show t 3 = ob _ _ (_ || _)
      rw [h3, decide_eq_true e7]
      simp
    · have z7 : ¬ t 8 = 0 := fun z => e7 (h8.symm.trans z)
      refine ⟨upd (upd (upd t 1 65535) 3 (t 3 ||| 32)) 8 0, fun Φ hp => ⟨fun _ => ⟨fun q => absurd q z7, fun _ => hp⟩, fun q => absurd z0 q⟩, ?_⟩
      unfold S2
      rw [if_pos e0]
      refine ⟨rfl, rfl, ?_, h0, h2, h4, h5, h6, h7⟩
      show t 3 ||| 32 = ob _ _ (_ || _)
      rw [h3, ob_or, decide_eq_false e7]
      rfl
  · have z0 : ¬ t 1 = 0 := fun z => e0 (h1.symm.trans z)
    refine ⟨upd t 1 (t 1 - 1), fun Φ hp => ⟨fun q => absurd q z0, fun _ => hp⟩, ?_⟩
    unfold S2
    rw [if_neg e0]
    exact ⟨by show t 1 - 1 = _; rw [h1], h8, h3, h0, h2, h4, h5, h6, h7⟩
theorem loop1 {t0 : Nat → Int32} {F : Bool} (hF : (t0 6 &&& 64 = 0 ↔ F = false)) {c a : Int32} {n : Nat} (hn : n ≤ 20) : ∀ (d i : Nat) (t : Nat → Int32), i + d = n → T1 t t0 (S1 (t0 2) F c a i) → ∃ t', T1 t' t0 (S1 (t0 2) F c a n) ∧ ∀ Φ, wp_X6_pass_38 t' (nI n) Φ → wp_X6_pass_23 (d + 1) t (nI n) (nI i) Φ := by
  intro d
  induction d with
  | zero =>
    intro i t hi h
    obtain rfl : i = n := by omega
    refine ⟨t, h, fun Φ hp => ?_⟩
    rw [wp_X6_pass_23]
    exact ⟨fun _ => hp, fun q => absurd (nI_le (Nat.le_refl i) (by omega)) q⟩
  | succ d ih =>
    intro i t hi h
    obtain ⟨t1, k1, k2⟩ := tick1 hF h
    obtain ⟨t', k3, k4⟩ := ih (i + 1) t1 (by omega) k2
    refine ⟨t', k3, fun Φ hp => ?_⟩
    rw [wp_X6_pass_23]
    refine ⟨fun q => absurd q (nI_ge (by omega) (by omega)), fun _ => k1 _ (fun v7 e7 => ?_)⟩
    rw [e7, nI_1]
    exact k4 Φ hp
theorem loop2 {t0 : Nat → Int32} {c a : Int32} {n : Nat} (hn : n ≤ 20) : ∀ (d i : Nat) (t : Nat → Int32), i + d = n → T2 t t0 (S2 c a i) → ∃ t', T2 t' t0 (S2 c a n) ∧ ∀ Φ : (Nat → Int32) → Prop, Φ t' → wp_X6_pass_61 (d + 1) t (nI n) (nI i) Φ := by
  intro d
  induction d with
  | zero =>
    intro i t hi h
    obtain rfl : i = n := by omega
    refine ⟨t, h, fun Φ hp => ?_⟩
    rw [wp_X6_pass_61]
    exact ⟨fun _ => hp, fun q => absurd (nI_le (Nat.le_refl i) (by omega)) q⟩
  | succ d ih =>
    intro i t hi h
    obtain ⟨t1, k1, k2⟩ := tick2 h
    obtain ⟨t', k3, k4⟩ := ih (i + 1) t1 (by omega) k2
    refine ⟨t', k3, fun Φ hp => ?_⟩
    rw [wp_X6_pass_61]
    refine ⟨fun q => absurd q (nI_ge (by omega) (by omega)), fun _ => k1 _ (fun v3 e3 => ?_)⟩
    rw [e3, nI_1]
    exact k4 Φ hp
theorem cm_pass {t0 : Nat → Int32} {F : Bool} (hF : (t0 6 &&& 64 = 0 ↔ F = false)) (w0 : wd16 (t0 0)) (w1 : wd16 (t0 1)) {n : Nat} (hn : n ≤ 20) : ∃ t1 t2, T1 t1 t0 (S1 (t0 2) F (t0 0) (t0 7) n) ∧ T2 t2 t1 (S2 (t0 1) (t0 8) n) ∧ Cm1 (wp_X6_pass t0 (nI n)) t2 := by
  have p38 : ∀ t1, T1 t1 t0 (S1 (t0 2) F (t0 0) (t0 7) n) → ∃ t2, T2 t2 t1 (S2 (t0 1) (t0 8) n) ∧ Cm1 (wp_X6_pass_38 t1 (nI n)) t2 := by
    intro t1 h1
    have e1 : t1 1 = t0 1 := h1.2.2.2.1
    have e8 : t1 8 = t0 8 := h1.2.2.2.2.2.2.2.2
    by_cases q : t1 1 < nI n
    · obtain ⟨t2, k1, k2⟩ := loop2 (t0 := t1) (c := t0 1) (a := t0 8) hn n 0 t1 (by omega) ⟨e1, e8, rfl, rfl, rfl, rfl, rfl, rfl, rfl⟩
      exact ⟨t2, k1, fun Φ hp => ⟨fun _ => ⟨n + 1, k2 Φ hp⟩, fun z => absurd q z⟩⟩
    · obtain ⟨m, hm, em⟩ := wd16_nI w1
      rw [e1, em] at q
      have hnm : n ≤ m := by
        rcases Nat.lt_or_ge m n with z | z
        · exact absurd (nI_lt z (by omega)) q
        · exact z
      refine ⟨upd t1 1 (t1 1 - nI n), ?_, fun Φ hp => ⟨fun z => absurd (by rw [e1, em] at z; exact z) q, fun _ => hp⟩⟩
      have e2 : t1 1 - nI n = nI (m - n) := by rw [e1, em, pk_sub hnm]
      rw [e2, em, S2_sub hm n hnm]
      exact ⟨rfl, e8, rfl, rfl, rfl, rfl, rfl, rfl, rfl⟩
  by_cases q : t0 0 < nI n
  · obtain ⟨t1, k1, k2⟩ := loop1 hF (c := t0 0) (a := t0 7) hn n 0 t0 (by omega) ⟨rfl, rfl, rfl, rfl, rfl, rfl, rfl, rfl, rfl⟩
    obtain ⟨t2, k3, k4⟩ := p38 t1 k1
    exact ⟨t1, t2, k1, k3, fun Φ hp => ⟨fun _ => ⟨n + 1, k2 Φ (k4 Φ hp)⟩, fun z => absurd q z⟩⟩
  · obtain ⟨m, hm, em⟩ := wd16_nI w0
    have hnm : n ≤ m := by
      rw [em] at q
      rcases Nat.lt_or_ge m n with z | z
      · exact absurd (nI_lt z (by omega)) q
      · exact z
    have h1 : T1 (upd t0 0 (t0 0 - nI n)) t0 (S1 (t0 2) F (t0 0) (t0 7) n) := by
      have e2 : t0 0 - nI n = nI (m - n) := by rw [em, pk_sub hnm]
      rw [e2]
      have e3 : S1 (t0 2) F (t0 0) (t0 7) n = (nI (m - n), t0 7, false) := by rw [em, S1_sub hm n hnm]
      rw [e3]
      exact ⟨rfl, rfl, rfl, rfl, rfl, rfl, rfl, rfl, rfl⟩
    obtain ⟨t2, k3, k4⟩ := p38 _ h1
    exact ⟨_, t2, h1, k3, fun Φ hp => ⟨fun z => absurd z q, fun _ => k4 Φ hp⟩⟩
