/-! adding and subtracting -/
theorem ite01 {c : Prop} [Decidable c] (h : (if c then (0 : Int32) else 1) = 0) : c := by
  by_cases k : c
  · exact k
  · rw [if_neg k] at h; exact absurd h (by decide)
theorem ite01n {c : Prop} [Decidable c] (h : ¬ (if c then (0 : Int32) else 1) = 0) : ¬ c := fun k => h (if_pos k)
theorem by8_1 : by8 1 := by8_of (n := 1) (by omega)
theorem by8_64 : by8 64 := by8_of (n := 64) (by omega)
theorem cmC_add (s : S_Proc) (v : Int32) {x V : Int32} (hx : s.1 0 + v + (s.1 4 &&& 1) = x) (hV : (if ((s.1 0 ^^^ x) &&& (v ^^^ x)) &&& 128 = 0 then (0 : Int32) else 1) = V) : Cm1 (wp_X5_add s v) (sP (sP (sP (sP s 4 (fl (s.1 4) 64 V)) 4 (fl (fl (s.1 4) 64 V) 1 (if x ≤ 255 then 0 else 1))) 4 (shP (fl (fl (s.1 4) 64 V) 1 (if x ≤ 255 then 0 else 1)) (x &&& 255))) 0 (x &&& 255)) := by
  intro Φ hp
  unfold wp_X5_add
  rw [hx]
  refine cm_sign s v x _ ?_
  rw [hV]
  refine cmC_mark s 64 V _ ⟨fun q => ?_, fun q => ?_⟩
  · rw [if_pos q] at hp
    exact cmC_mark _ 1 0 _ (cmC_shown _ _ _ hp)
  · rw [if_neg q] at hp
    exact cmC_mark _ 1 1 _ (cmC_shown _ _ _ hp)
theorem cmM_add104 (u : S_Model) (x : Int32) (hp8 : by8 (u.1 3)) : Cm2 (wp_X9_add_104 u x) (if u.1 3 &&& 8 = 0 then 0 else 1) (mR (mI (mI u 3 (fl (u.1 3) 1 (if x ≤ 255 then 0 else 1))) 3 (nzM (fl (u.1 3) 1 (if x ≤ 255 then 0 else 1)) (x &&& 255))) 0 (x &&& 255)) := by
  intro Φ hp
  have e : ∀ on, nzM (fl (u.1 3) 1 on) (x &&& 255) &&& 8 = u.1 3 &&& 8 := fun on => by rw [nz_bit8 (by8_fl hp8 by8_1 on), (fl_bit8 hp8 on).2]
  refine ⟨fun q => ?_, fun q => ?_⟩
  · rw [if_pos q] at hp
    refine cmM_flag u 1 0 _ (cmM_tested _ _ _ ⟨vp04, cm_is _ 8 _ ?_⟩)
    have e0 : (upd (upd u.1 3 (fl (u.1 3) 1 0)) 3 (nzM (fl (u.1 3) 1 0) (x &&& 255))) 3 &&& 8 = u.1 3 &&& 8 := e 0
    refine ⟨fun z => ?_, fun z => ?_⟩
    · by_cases d : u.1 3 &&& 8 = 0
      · rw [if_pos d] at hp; exact hp
      · exact absurd (e0.symm.trans (ite01 z)) d
    · by_cases d : u.1 3 &&& 8 = 0
      · exact absurd (e0.trans d) (ite01n z)
      · rw [if_neg d] at hp; exact hp
  · rw [if_neg q] at hp
    refine cmM_flag u 1 1 _ (cmM_tested _ _ _ ⟨vp04, cm_is _ 8 _ ?_⟩)
    have e0 : (upd (upd u.1 3 (fl (u.1 3) 1 1)) 3 (nzM (fl (u.1 3) 1 1) (x &&& 255))) 3 &&& 8 = u.1 3 &&& 8 := e 1
    refine ⟨fun z => ?_, fun z => ?_⟩
    · by_cases d : u.1 3 &&& 8 = 0
      · rw [if_pos d] at hp; exact hp
      · exact absurd (e0.symm.trans (ite01 z)) d
    · by_cases d : u.1 3 &&& 8 = 0
      · exact absurd (e0.trans d) (ite01n z)
      · rw [if_neg d] at hp; exact hp
/-- the model's sum x, with what decimal numbers make of it: z -/
theorem cmM_add79 (u : S_Model) (v x z V : Int32) (hp8 : by8 (u.1 3)) (hV : (if ((u.2.2 2 0 ^^^ x) &&& (v ^^^ x)) &&& 128 = 0 then (0 : Int32) else 1) = V) (hz : z = if u.1 3 &&& 8 = 0 then x else if x ≤ 159 then x else x + 96) : Cm2 (wp_X9_add_79 u v x) (if u.1 3 &&& 8 = 0 then 0 else 1) (mR (mI (mI (mI u 3 (fl (u.1 3) 64 V)) 3 (fl (fl (u.1 3) 64 V) 1 (if z ≤ 255 then 0 else 1))) 3 (nzM (fl (fl (u.1 3) 64 V) 1 (if z ≤ 255 then 0 else 1)) (z &&& 255))) 0 (z &&& 255)) := by
  intro Φ hp
  have e8 := (fl_bit8 hp8 V).1
  have b8 : by8 (fl (u.1 3) 64 V) := by8_fl hp8 (by8_of (n := 64) (by omega)) V
  refine cm_over u v x _ ?_
  rw [hV]
  refine cm_is _ 8 _ ?_
  have key := cmM_add104 (mI u 3 (fl (u.1 3) 64 V)) z b8
  have e8' : (mI u 3 (fl (u.1 3) 64 V)).1 3 &&& 8 = u.1 3 &&& 8 := e8
  rw [e8'] at key ⊢
  by_cases d : u.1 3 &&& 8 = 0
  · rw [if_pos d] at hp key hz ⊢
    refine ⟨fun _ => ?_, fun q => absurd rfl q⟩
    rw [hz] at key hp
    exact key _ hp
  · rw [if_neg d] at hp key hz ⊢
    refine ⟨fun q => absurd q (by decide), fun _ => ⟨fun q => ?_, fun q v11 e11 => ?_⟩⟩
    · rw [if_pos q] at hz
      rw [hz] at key hp
      exact key _ hp
    · rw [if_neg q] at hz
      rw [e11]
      rw [hz] at key hp
      exact key _ hp
/-- binary -/
theorem RR.addB {K : Kp} {g : Nat} {s : S_Proc} {u : S_Model} (h : RR K g s u) (v : Int32) (hd : u.1 3 &&& 8 = 0) : ∃ s' u', Cm1 (wp_X5_add s v) s' ∧ Cm2 (wp_X9_add u v) 0 u' ∧ RR K g s' u' ∧ s'.1 13 = s.1 13 := by
  have e0 := h.1.1.1
  have e1 : s.1 4 &&& 1 = u.1 3 &&& 1 := h.pbit (by decide)
  have hR := h.sum (if ((s.1 0 ^^^ (s.1 0 + v + (s.1 4 &&& 1))) &&& (v ^^^ (s.1 0 + v + (s.1 4 &&& 1)))) &&& 128 = 0 then (0 : Int32) else 1) (s.1 0 + v + (s.1 4 &&& 1))
  refine ⟨_, _, cmC_add s v rfl rfl, ?_, hR, rfl⟩
  intro Φ hp
  have key := cmM_add79 u v (u.2.2 2 0 + v + (u.1 3 &&& 1)) (u.2.2 2 0 + v + (u.1 3 &&& 1)) _ h.1.2.1.2.2.2.2.1 rfl (by rw [if_pos hd])
  rw [if_pos hd] at key
  refine ⟨vp04, fun v14 e14 => cm_is u 8 _ ⟨fun _ => ?_, fun q => absurd (if_pos hd) q⟩⟩
  rw [e14]
  rw [e0, e1] at hp
  exact key _ hp
/-- decimal -/
theorem RR.addD {K : Kp} {g : Nat} {s : S_Proc} {u : S_Model} (h : RR K g s u) (v : Int32) (hd : ¬ u.1 3 &&& 8 = 0) : ∃ s' u', Cm1 (wp_X5_addDecimal s v) s' ∧ Cm2 (wp_X9_add u v) 1 u' ∧ RR K g s' u' ∧ s'.1 13 = s.1 13 + 1 := by
  have e0 := h.1.1.1
  have e1 : s.1 4 &&& 1 = u.1 3 &&& 1 := h.pbit (by decide)
  -- the sum behind the lower digit
  have tail : ∀ l : Int32, ∃ s' u', Cm1 (wp_X5_addDecimal_37 s v l) s' ∧ Cm2 (wp_X9_add_60 u v l) 1 u' ∧ RR K g s' u' ∧ s'.1 13 = s.1 13 + 1 := by
    intro l
    have hy : ∀ y : Int32, y = (s.1 0 &&& 240) + (v &&& 240) + l → ∃ s' u', (∀ Φ : S_Proc → Prop, Φ s' → wp_X5_changesSign s v y (fun r6 => wp_X5_mark s 64 r6 (fun u7 => ((y ≤ 159 → wp_X5_addDecimal_76 u7 y Φ) ∧ (¬ y ≤ 159 → ∀ v9 : Int32, v9 = y + 96 → wp_X5_addDecimal_76 u7 v9 Φ))))) ∧ Cm2 (wp_X9_add_79 u v y) 1 u' ∧ RR K g s' u' ∧ s'.1 13 = s.1 13 + 1 := by
      intro y ey
      obtain ⟨V, hV⟩ : ∃ V : Int32, V = if ((s.1 0 ^^^ y) &&& (v ^^^ y)) &&& 128 = 0 then (0 : Int32) else 1 := ⟨_, rfl⟩
      obtain ⟨z, hz⟩ : ∃ z : Int32, z = if y ≤ 159 then y else y + 96 := ⟨_, rfl⟩
      have hR := (h.sum V z).c13 (s.1 13 + 1)
      have key := cmM_add79 u v y z V h.1.2.1.2.2.2.2.1 (by rw [← e0]; exact hV.symm) (by rw [if_neg hd]; exact hz)
      rw [if_neg hd] at key
      refine ⟨_, _, fun Φ hp => ?_, key, hR, rfl⟩
      have t76 : ∀ w : Int32, w = z → wp_X5_addDecimal_76 (sP s 4 (fl (s.1 4) 64 V)) w Φ := by
        intro w ew
        rw [ew]
        refine ⟨fun q => ?_, fun q => ?_⟩
        · rw [if_pos q] at hp; exact cmC_mark _ 1 0 _ (cmC_shown _ _ _ hp)
        · rw [if_neg q] at hp; exact cmC_mark _ 1 1 _ (cmC_shown _ _ _ hp)
      refine cm_sign s v y _ ?_
      rw [← hV]
      refine cmC_mark s 64 V _ ⟨fun q => t76 _ (by rw [hz, if_pos q]), fun q v9 e9 => t76 _ (by rw [e9, hz, if_neg q])⟩
    obtain ⟨s', u', k1, k2, k3, k4⟩ := hy _ rfl
    refine ⟨s', u', fun Φ hp => ?_, fun Φ hp => ?_, k3, k4⟩
    · intro v5 e5
      rw [e5]
      exact k1 Φ hp
    · refine ⟨vp04, fun v12 e12 => ?_⟩
      rw [e12]
      rw [e0] at k2
      exact k2 Φ hp
  by_cases q : (s.1 0 &&& 15) + (v &&& 15) + (s.1 4 &&& 1) ≤ 9
  · obtain ⟨s', u', k1, k2, k3, k4⟩ := tail ((s.1 0 &&& 15) + (v &&& 15) + (s.1 4 &&& 1))
    refine ⟨s', u', fun Φ hp => ?_, fun Φ hp => ?_, k3, k4⟩
    · intro v10 e10
      rw [e10]
      exact ⟨fun _ => k1 Φ hp, fun z => absurd q z⟩
    · refine ⟨vp04, fun v14 e14 => cm_is u 8 _ ⟨fun z => absurd z (by rw [if_neg hd]; decide), fun _ => ⟨vp04, fun v17 e17 => ?_⟩⟩⟩
      rw [e0, e1] at k2 q
      rw [e17]
      exact ⟨fun _ => k2 Φ hp, fun z => absurd q z⟩
  · obtain ⟨s', u', k1, k2, k3, k4⟩ := tail ((((s.1 0 &&& 15) + (v &&& 15) + (s.1 4 &&& 1) + 6) &&& 15) + 16)
    refine ⟨s', u', fun Φ hp => ?_, fun Φ hp => ?_, k3, k4⟩
    · intro v10 e10
      rw [e10]
      refine ⟨fun z => absurd z q, fun _ v12 e12 => ?_⟩
      rw [e12]
      exact k1 Φ hp
    · refine ⟨vp04, fun v14 e14 => cm_is u 8 _ ⟨fun z => absurd z (by rw [if_neg hd]; decide), fun _ => ⟨vp04, fun v17 e17 => ?_⟩⟩⟩
      rw [e0, e1] at k2 q
      rw [e17]
      refine ⟨fun z => absurd z q, fun _ v20 e20 => ?_⟩
      rw [e20]
      exact k2 Φ hp
theorem use_ADC {K : Kp} {g : Nat} {s : S_Proc} {u : S_Model} (h : RR K g s u) {v : Int32} (_hv : by8 v) : UseOK K g s u 3 3 v := by
  have e8 : s.1 4 &&& 8 = u.1 3 &&& 8 := h.pbit (by decide)
  by_cases d : u.1 3 &&& 8 = 0
  · obtain ⟨s', u', k1, k2, k3, k4⟩ := h.addB v d
    refine ⟨s', 0, u', fun Φ hp => ?_, fun T L Φ hp => ?_, k3, by rw [k4, add0], Or.inl rfl⟩
    · simp [wp_X5_use, e8, d]; exact k1 _ hp
    · simp [wp_X9_alu_88]; exact k2 _ hp
  · obtain ⟨s', u', k1, k2, k3, k4⟩ := h.addD v d
    refine ⟨s', 1, u', fun Φ hp => ?_, fun T L Φ hp => ?_, k3, k4, Or.inr rfl⟩
    · simp [wp_X5_use, e8, d]; exact k1 _ hp
    · simp [wp_X9_alu_88]; exact k2 _ hp
