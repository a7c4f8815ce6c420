theorem nz_nz {q : Int32} (hq : by8 q) (y z : Int32) : nzM (nzM q y) z = nzM q z := by
  obtain ⟨n, hn, rfl⟩ := by8_nI hq
  have t : ∀ n : Fin 256, ∀ a b : Fin 2, ∀ c d : Fin 2, fl (fl (fl (fl (nI n.val) 128 (nI a.val)) 2 (nI b.val)) 128 (nI c.val)) 2 (nI d.val) = fl (fl (nI n.val) 128 (nI c.val)) 2 (nI d.val) := by decide +kernel
  have t := t ⟨n, hn⟩
  unfold nzM
  have e1 : ∀ p : Prop, ∀ [Decidable p], ∃ a : Fin 2, (if p then (0 : Int32) else 1) = nI a.val := fun p _ => by
    by_cases h : p
    · exact ⟨0, by rw [if_pos h]; rfl⟩
    · exact ⟨1, by rw [if_neg h]; rfl⟩
  have e2 : ∀ p : Prop, ∀ [Decidable p], ∃ a : Fin 2, (if p then (1 : Int32) else 0) = nI a.val := fun p _ => by
    by_cases h : p
    · exact ⟨1, by rw [if_pos h]; rfl⟩
    · exact ⟨0, by rw [if_neg h]; rfl⟩
  obtain ⟨a, ea⟩ := e1 (y ≤ 127)
  obtain ⟨b, eb⟩ := e2 (y = 0)
  obtain ⟨c, ec⟩ := e1 (z ≤ 127)
  obtain ⟨d, ed⟩ := e2 (z = 0)
  rw [ea, eb, ec, ed]
  exact t a b c d
theorem mR_mR (u : S_Model) (k : Nat) (x y : Int32) : mR (mR u k x) k y = mR u k y := by
  show (u.1, u.2.1, va_up (va_up u.2.2 2 (upd (u.2.2 2) k x)) 2 (upd (va_up u.2.2 2 (upd (u.2.2 2) k x) 2) k y)) = _
  rw [bx_uu, va_up_self, upd_upd]
theorem mI_mI (u : S_Model) (k : Nat) (x y : Int32) : mI (mI u k x) k y = mI u k y := by
  show (upd (upd u.1 k x) k y, u.2.1, u.2.2) = _
  rw [upd_upd]
theorem RR.subD {K : Kp} {g : Nat} {s : S_Proc} {u : S_Model} (h : RR K g s u) (v : Int32) (hd : ¬ u.1 3 &&& 8 = 0) : ∃ s' u', Cm1 (wp_X5_subtractDecimal s v) s' ∧ Cm2 (wp_X9_subtract u v) 1 u' ∧ RR K g s' u' ∧ s'.1 13 = s.1 13 + 1 := by
  have e0 := h.1.1.1
  have e1 : s.1 4 &&& 1 = u.1 3 &&& 1 := h.pbit (by decide)
  have p8 := h.1.2.1.2.2.2.2.1
  obtain ⟨x, hx⟩ : ∃ x : Int32, x = s.1 0 + (255 - v) + (s.1 4 &&& 1) := ⟨_, rfl⟩
  obtain ⟨V, hV⟩ : ∃ V : Int32, V = if ((s.1 0 ^^^ x) &&& ((255 - v) ^^^ x)) &&& 128 = 0 then (0 : Int32) else 1 := ⟨_, rfl⟩
  have hS := h.sum V x
  have cA := cmC_add s (255 - v) hx.symm hV.symm
  -- the end, with the difference w
  have fin : ∀ w : Int32, ∃ s' u', Cm1 (wp_X5_subtractDecimal_49 s v w) s' ∧ Cm2 (wp_X9_subtract_132 (mI (mI u 3 (fl (u.1 3) 64 V)) 3 (fl (fl (u.1 3) 64 V) 1 (if x ≤ 255 then 0 else 1))) w) 1 u' ∧ RR K g s' u' ∧ s'.1 13 = s.1 13 + 1 := by
    intro w
    have hR := ((hS.shown (by8_and w)).r0 (by8_and w)).c13 (s.1 13 + 1)
    refine ⟨_, _, fun Φ hp => cA _ (cmC_shown _ _ _ hp), fun Φ hp => cmM_tested _ _ _ ⟨vp04, ?_⟩, hR, rfl⟩
    have q8 : by8 (fl (fl (u.1 3) 64 V) 1 (if x ≤ 255 then 0 else 1)) := by8_fl (by8_fl p8 by8_64 _) by8_1 _
    have e := nz_nz q8 (x &&& 255) (w &&& 255)
    have e2 : (mR (mI (mR (mI (mI (mI u 3 (fl (u.1 3) 64 V)) 3 (fl (fl (u.1 3) 64 V) 1 (if x ≤ 255 then 0 else 1))) 3 (nzM (fl (fl (u.1 3) 64 V) 1 (if x ≤ 255 then 0 else 1)) (x &&& 255))) 0 (x &&& 255)) 3 (nzM (nzM (fl (fl (u.1 3) 64 V) 1 (if x ≤ 255 then 0 else 1)) (x &&& 255)) (w &&& 255))) 0 (w &&& 255)) = mR (mI (mI (mI u 3 (fl (u.1 3) 64 V)) 3 (fl (fl (u.1 3) 64 V) 1 (if x ≤ 255 then 0 else 1))) 3 (nzM (fl (fl (u.1 3) 64 V) 1 (if x ≤ 255 then 0 else 1)) (w &&& 255))) 0 (w &&& 255) := by
      rw [e]
      exact (mR_mR (mI (mI (mI (mI u 3 (fl (u.1 3) 64 V)) 3 (fl (fl (u.1 3) 64 V) 1 (if x ≤ 255 then 0 else 1))) 3 (nzM (fl (fl (u.1 3) 64 V) 1 (if x ≤ 255 then 0 else 1)) (x &&& 255))) 3 (nzM (fl (fl (u.1 3) 64 V) 1 (if x ≤ 255 then 0 else 1)) (w &&& 255))) 0 (x &&& 255) (w &&& 255)).trans (congrArg (fun m => mR m 0 (w &&& 255)) (mI_mI _ 3 _ _))
    have hp2 : Φ 1 (mR (mI (mI (mI u 3 (fl (u.1 3) 64 V)) 3 (fl (fl (u.1 3) 64 V) 1 (if x ≤ 255 then 0 else 1))) 3 (nzM (fl (fl (u.1 3) 64 V) 1 (if x ≤ 255 then 0 else 1)) (w &&& 255))) 0 (w &&& 255)) := e2 ▸ hp
    exact hp2
  obtain ⟨l, hl⟩ : ∃ l : Int32, l = (s.1 0 &&& 15) - (v &&& 15) - (1 - (s.1 4 &&& 1)) := ⟨_, rfl⟩
  obtain ⟨d, hdd⟩ : ∃ d : Int32, d = s.1 0 - v - (1 - (s.1 4 &&& 1)) := ⟨_, rfl⟩
  obtain ⟨d1, hd1⟩ : ∃ d1 : Int32, d1 = if 0 ≤ d then d else d - 96 := ⟨_, rfl⟩
  obtain ⟨d2, hd2⟩ : ∃ d2 : Int32, d2 = if 0 ≤ l then d1 else d1 - 6 := ⟨_, rfl⟩
  obtain ⟨s', u', k1, k2, k3, k4⟩ := fin d2
  have c42 : ∀ Φ : S_Proc → Prop, Φ s' → wp_X5_subtractDecimal_42 s v l d1 Φ := by
    intro Φ hp
    refine ⟨fun q => ?_, fun q v5 e5 => ?_⟩
    · rw [if_pos q] at hd2; rw [← hd2]; exact k1 _ hp
    · rw [if_neg q] at hd2; rw [e5, show d1 + -6 = d1 - 6 by grind, ← hd2]; exact k1 _ hp
  have m115 : ∀ Φ : Int32 → S_Model → Prop, Φ 1 u' → wp_X9_subtract_115 (mI (mI u 3 (fl (u.1 3) 64 V)) 3 (fl (fl (u.1 3) 64 V) 1 (if x ≤ 255 then 0 else 1))) l d1 Φ := by
    intro Φ hp
    refine ⟨fun q => ?_, fun q => ?_⟩
    · rw [if_pos q] at hd2; rw [← hd2]; exact k2 _ hp
    · rw [if_neg q] at hd2; rw [← hd2]; exact k2 _ hp
  refine ⟨s', u', fun Φ hp => ?_, fun Φ hp => ?_, k3, k4⟩
  · intro v6 e6 v7 e7 v8 e8
    rw [e6] at e7
    rw [e7, e8, ← hl, ← hdd]
    refine ⟨fun q => ?_, fun q v10 e10 => ?_⟩
    · rw [if_pos q] at hd1; rw [← hd1]; exact c42 _ hp
    · rw [if_neg q] at hd1; rw [e10, show d + -96 = d - 96 by grind, ← hd1]; exact c42 _ hp
  · refine cm_is u 8 _ ⟨fun z => absurd (ite01 z) hd, fun _ => ⟨vp04, fun v9 e9 => ?_⟩⟩
    have ex : v9 - v + (u.1 3 &&& 1) = x := by rw [e9, hx, e0, e1]; show u.2.2 2 0 + 255 - v + (u.1 3 &&& 1) = _; grind
    rw [ex]
    refine cm_over u (255 - v) x _ ?_
    rw [show (if ((u.2.2 2 0 ^^^ x) &&& ((255 - v) ^^^ x)) &&& 128 = 0 then (0 : Int32) else 1) = V by rw [hV, e0]]
    refine ⟨vp04, fun v11 e11 v12 e12 => ⟨vp04, fun v13 e13 => ?_⟩⟩
    have el : v12 = l := by rw [e12, e11, hl, e0, e1]; show (u.2.2 2 0 &&& 15) - (v &&& 15) + (u.1 3 &&& 1) - 1 = _; grind
    have ed : v13 - 1 = d := by rw [e13, hdd, e0, e1]; show u.2.2 2 0 - v + (u.1 3 &&& 1) - 1 = _; grind
    rw [el, ed]
    have m97 : ∀ on : Int32, on = (if x ≤ 255 then (0 : Int32) else 1) → wp_X9_subtract_97 (mI u 3 (fl (u.1 3) 64 V)) l d 1 on Φ := by
      intro on eon
      refine cmM_flag _ 1 on _ ?_
      rw [eon]
      refine ⟨fun q => ?_, fun q => ?_⟩
      · rw [if_pos q] at hd1; rw [← hd1]; exact m115 _ hp
      · rw [if_neg q] at hd1; rw [← hd1]; exact m115 _ hp
    exact ⟨fun q => m97 0 (by rw [if_pos q]), fun q => m97 1 (by rw [if_neg q])⟩
theorem use_SBC {K : Kp} {g : Nat} {s : S_Proc} {u : S_Model} (h : RR K g s u) {v : Int32} (_hv : by8 v) : UseOK K g s u 6 7 v := by
  have e8 : s.1 4 &&& 8 = u.1 3 &&& 8 := h.pbit (by decide)
  by_cases d : u.1 3 &&& 8 = 0
  · obtain ⟨s', u', k1, k2, k3, k4⟩ := h.addB (255 - v) d
    refine ⟨s', 0, u', fun Φ hp => ?_, fun T L Φ hp => ?_, k3, by rw [k4, add0], Or.inl rfl⟩
    · simp [wp_X5_use, e8, d]; exact k1 _ hp
    · simp [wp_X9_alu_88]; exact cm_is u 8 _ ⟨fun _ => k2 _ hp, fun z => absurd d (ite01n z)⟩
  · obtain ⟨s', u', k1, k2, k3, k4⟩ := h.subD v d
    refine ⟨s', 1, u', fun Φ hp => ?_, fun T L Φ hp => ?_, k3, k4, Or.inr rfl⟩
    · simp [wp_X5_use, e8, d]; exact k1 _ hp
    · simp [wp_X9_alu_88]; exact k2 _ hp
