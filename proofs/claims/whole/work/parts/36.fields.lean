/-! single fields set on both sides -/
abbrev sP (s : S_Proc) (k : Nat) (v : Int32) : S_Proc := (upd s.1 k v, s.2.1, s.2.2.1, s.2.2.2)
abbrev mI (u : S_Model) (k : Nat) (v : Int32) : S_Model := (upd u.1 k v, u.2.1, u.2.2)
abbrev mR (u : S_Model) (k : Nat) (v : Int32) : S_Model := (u.1, u.2.1, va_up u.2.2 2 (upd (u.2.2 2) k v))
theorem upd_upd (f : Nat → Int32) (k : Nat) (a b : Int32) : upd (upd f k a) k b = upd f k b := by
  funext j
  by_cases e : j = k
  · subst e; rw [pk_us, pk_us]
  · rw [pk_un e, pk_un e, pk_un e]
theorem RR.mono {K : Kp} {g g' : Nat} {s : S_Proc} {u : S_Model} (h : RR K g s u) (hg : g ≤ g') : RR K g' s u := by
  obtain ⟨⟨a, b, ⟨t, ht, e1, e2⟩⟩, c, ⟨hk, ⟨t', ht', k1, k2, k3⟩, d⟩, hb⟩ := h
  exact ⟨⟨a, b, ⟨t, by omega, e1, e2⟩⟩, c, ⟨hk, ⟨t', by omega, k1, k2, k3⟩, d⟩, hb.mono hg⟩
theorem RR.p {K : Kp} {g : Nat} {s : S_Proc} {u : S_Model} (h : RR K g s u) {x : Int32} (hx : by8 x) : RR K g (sP s 4 (x ||| 48)) (mI u 3 x) := by
  obtain ⟨⟨⟨a0, a1, a2, a3, a4, a5, a6, a7, a8⟩, ⟨b0, b1, b2, b3, b4, b5, b6, b7, b8⟩, c⟩, d, e, f⟩ := h
  exact ⟨⟨⟨a0, a1, a2, a3, rfl, a5, a6, a7, a8⟩, ⟨b0, b1, b2, b3, hx, b5, b6, b7, b8⟩, c⟩, d, e, f⟩
theorem RR.r0 {K : Kp} {g : Nat} {s : S_Proc} {u : S_Model} (h : RR K g s u) {x : Int32} (hx : by8 x) : RR K g (sP s 0 x) (mR u 0 x) := by
  obtain ⟨⟨⟨a0, a1, a2, a3, a4, a5, a6, a7, a8⟩, ⟨b0, b1, b2, b3, b4, b5, b6, b7, b8⟩, c⟩, d, e, f⟩ := h
  exact ⟨⟨⟨rfl, a1, a2, a3, a4, a5, a6, a7, a8⟩, ⟨hx, b1, b2, b3, b4, b5, b6, b7, b8⟩, c⟩, d, e, f⟩
theorem RR.r1 {K : Kp} {g : Nat} {s : S_Proc} {u : S_Model} (h : RR K g s u) {x : Int32} (hx : by8 x) : RR K g (sP s 1 x) (mR u 1 x) := by
  obtain ⟨⟨⟨a0, a1, a2, a3, a4, a5, a6, a7, a8⟩, ⟨b0, b1, b2, b3, b4, b5, b6, b7, b8⟩, c⟩, d, e, f⟩ := h
  exact ⟨⟨⟨a0, rfl, a2, a3, a4, a5, a6, a7, a8⟩, ⟨b0, hx, b2, b3, b4, b5, b6, b7, b8⟩, c⟩, d, e, f⟩
theorem RR.r2 {K : Kp} {g : Nat} {s : S_Proc} {u : S_Model} (h : RR K g s u) {x : Int32} (hx : by8 x) : RR K g (sP s 2 x) (mR u 2 x) := by
  obtain ⟨⟨⟨a0, a1, a2, a3, a4, a5, a6, a7, a8⟩, ⟨b0, b1, b2, b3, b4, b5, b6, b7, b8⟩, c⟩, d, e, f⟩ := h
  exact ⟨⟨⟨a0, a1, rfl, a3, a4, a5, a6, a7, a8⟩, ⟨b0, b1, hx, b3, b4, b5, b6, b7, b8⟩, c⟩, d, e, f⟩
theorem RR.r3 {K : Kp} {g : Nat} {s : S_Proc} {u : S_Model} (h : RR K g s u) {x : Int32} (hx : by8 x) : RR K g (sP s 3 x) (mR u 3 x) := by
  obtain ⟨⟨⟨a0, a1, a2, a3, a4, a5, a6, a7, a8⟩, ⟨b0, b1, b2, b3, b4, b5, b6, b7, b8⟩, c⟩, d, e, f⟩ := h
  exact ⟨⟨⟨a0, a1, a2, rfl, a4, a5, a6, a7, a8⟩, ⟨b0, b1, b2, hx, b4, b5, b6, b7, b8⟩, c⟩, d, e, f⟩
theorem RR.pc {K : Kp} {g : Nat} {s : S_Proc} {u : S_Model} (h : RR K g s u) {x : Int32} (hx : wd16 x) : RR K g (sP s 5 x) (mI u 4 x) := by
  obtain ⟨⟨⟨a0, a1, a2, a3, a4, a5, a6, a7, a8⟩, ⟨b0, b1, b2, b3, b4, b5, b6, b7, b8⟩, c⟩, d, e, f⟩ := h
  exact ⟨⟨⟨a0, a1, a2, a3, a4, rfl, a6, a7, a8⟩, ⟨b0, b1, b2, b3, b4, hx, b6, b7, b8⟩, c⟩, d, e, f⟩
theorem RR.wai {K : Kp} {g : Nat} {s : S_Proc} {u : S_Model} (h : RR K g s u) {x : Int32} (hx : bl1 x) : RR K g (sP s 6 x) (mI u 6 x) := by
  obtain ⟨⟨⟨a0, a1, a2, a3, a4, a5, a6, a7, a8⟩, ⟨b0, b1, b2, b3, b4, b5, b6, b7, b8⟩, c⟩, d, e, f⟩ := h
  exact ⟨⟨⟨a0, a1, a2, a3, a4, a5, rfl, a7, a8⟩, ⟨b0, b1, b2, b3, b4, b5, hx, b7, b8⟩, c⟩, d, e, f⟩
theorem RR.stp {K : Kp} {g : Nat} {s : S_Proc} {u : S_Model} (h : RR K g s u) {x : Int32} (hx : bl1 x) : RR K g (sP s 7 x) (mI u 7 x) := by
  obtain ⟨⟨⟨a0, a1, a2, a3, a4, a5, a6, a7, a8⟩, ⟨b0, b1, b2, b3, b4, b5, b6, b7, b8⟩, c⟩, d, e, f⟩ := h
  exact ⟨⟨⟨a0, a1, a2, a3, a4, a5, a6, rfl, a8⟩, ⟨b0, b1, b2, b3, b4, b5, b6, hx, b8⟩, c⟩, d, e, f⟩
theorem RR.edg {K : Kp} {g : Nat} {s : S_Proc} {u : S_Model} (h : RR K g s u) {x : Int32} (hx : bl1 x) : RR K g (sP s 8 x) (mI u 8 x) := by
  obtain ⟨⟨⟨a0, a1, a2, a3, a4, a5, a6, a7, a8⟩, ⟨b0, b1, b2, b3, b4, b5, b6, b7, b8⟩, c⟩, d, e, f⟩ := h
  exact ⟨⟨⟨a0, a1, a2, a3, a4, a5, a6, a7, rfl⟩, ⟨b0, b1, b2, b3, b4, b5, b6, b7, hx⟩, c⟩, d, e, f⟩
theorem RR.c13 {K : Kp} {g : Nat} {s : S_Proc} {u : S_Model} (h : RR K g s u) (x : Int32) : RR K g (sP s 13 x) u := h
theorem RR.c14 {K : Kp} {g : Nat} {s : S_Proc} {u : S_Model} (h : RR K g s u) (x : Int32) : RR K g (sP s 14 x) u := h
theorem RR.m0 {K : Kp} {g : Nat} {s : S_Proc} {u : S_Model} (h : RR K g s u) (x : Int32) : RR (x, K.2) g s (mI u 0 x) := ⟨h.1, h.2.1, ⟨⟨rfl, h.2.2.1.1.2⟩, h.2.2.1.2⟩, h.2.2.2⟩
theorem RR.m9 {K : Kp} {g : Nat} {s : S_Proc} {u : S_Model} (h : RR K g s u) (x : Int32) : RR K g s (mI u 9 x) := h
theorem RR.m10 {K : Kp} {g : Nat} {s : S_Proc} {u : S_Model} (h : RR K g s u) (x : Int32) : RR K g s (mI u 10 x) := h
theorem RR.m11 {K : Kp} {g : Nat} {s : S_Proc} {u : S_Model} (h : RR K g s u) (x : Int32) : RR K g s (mI u 11 x) := h
/-! flags -/
def fl (x f on : Int32) : Int32 := if on = 0 then x &&& (f ^^^ -1) else x ||| f
def nzM (x v : Int32) : Int32 := fl (fl x 128 (if v ≤ 127 then 0 else 1)) 2 (if v = 0 then 1 else 0)
def shP (p v : Int32) : Int32 := ((p &&& -131) ||| (v &&& 128)) ||| (if v = 0 then 2 else 0)
theorem by8_fl {x : Int32} (hx : by8 x) {f : Int32} (hf : by8 f) (on : Int32) : by8 (fl x f on) := by
  unfold fl
  split
  · exact by8_andl hx _
  · exact by8_or hx hf
theorem by8_nz {x : Int32} (hx : by8 x) (v : Int32) : by8 (nzM x v) := by8_fl (by8_fl hx (by8_of (n := 128) (by omega)) _) (by8_of (n := 2) (by omega)) _
theorem fl_48 (x on : Int32) {f : Int32} (hf : (48 : Int32) &&& (f ^^^ -1) = 48) : fl (x ||| 48) f on = fl x f on ||| 48 := by
  unfold fl
  split
  · rw [i32_and_or, hf]
  · rw [i32_or_assoc, i32_or_comm 48, ← i32_or_assoc]
theorem bit_48 (x : Int32) {f : Int32} (hf : (48 : Int32) &&& f = 0) : (x ||| 48) &&& f = x &&& f := by
  rw [i32_and_or, hf]
  obtain ⟨n, hn, e⟩ := i32_nat (x &&& f)
  rw [e, show (0 : Int32) = nI 0 from rfl, nI_or, Nat.or_zero]
theorem b128' {v : Int32} (hv : by8 v) : v &&& 128 = if v ≤ 127 then 0 else 128 := by
  obtain ⟨n, hn, rfl⟩ := by8_nI hv
  have : ∀ n : Fin 256, (nI n.val &&& 128 = if nI n.val ≤ 127 then 0 else 128) := by decide +kernel
  exact this ⟨n, hn⟩
theorem sh_nz {x v : Int32} (hx : by8 x) (hv : by8 v) : shP (x ||| 48) v = nzM x v ||| 48 := by
  unfold shP nzM
  rw [b128' hv]
  obtain ⟨n, hn, rfl⟩ := by8_nI hx
  by_cases h0 : v = 0
  · subst h0
    have : ∀ n : Fin 256, ((nI n.val ||| 48) &&& -131 ||| (if (0 : Int32) ≤ 127 then 0 else 128)) ||| (if (0 : Int32) = 0 then 2 else 0) = fl (fl (nI n.val) 128 (if (0 : Int32) ≤ 127 then 0 else 1)) 2 (if (0 : Int32) = 0 then 1 else 0) ||| 48 := by decide +kernel
    exact this ⟨n, hn⟩
  · by_cases h1 : v ≤ 127
    · simp only [h0, h1, if_true, if_false]
      have : ∀ n : Fin 256, ((nI n.val ||| 48) &&& -131 ||| 0) ||| 0 = fl (fl (nI n.val) 128 0) 2 0 ||| 48 := by decide +kernel
      exact this ⟨n, hn⟩
    · simp only [h0, h1, if_false]
      have : ∀ n : Fin 256, ((nI n.val ||| 48) &&& -131 ||| 128) ||| 0 = fl (fl (nI n.val) 128 1) 2 0 ||| 48 := by decide +kernel
      exact this ⟨n, hn⟩
theorem cmC_mark (s : S_Proc) (f on : Int32) : Cm1 (wp_X5_mark s f on) (sP s 4 (fl (s.1 4) f on)) := by
  intro Φ hp
  unfold wp_X5_mark
  unfold fl at hp
  refine ⟨fun h => ?_, fun h => ?_⟩
  · rwa [if_pos h] at hp
  · rwa [if_neg h] at hp
theorem cmM_flag (u : S_Model) (f on : Int32) : Cm1 (wp_X9_flag u f on) (mI u 3 (fl (u.1 3) f on)) := by
  intro Φ hp
  unfold wp_X9_flag
  unfold fl at hp
  refine ⟨fun h => ?_, fun h => ?_⟩
  · rwa [if_pos h] at hp
  · rwa [if_neg h] at hp
theorem cmM_tested (u : S_Model) (v : Int32) : Cm2 (wp_X9_tested u v) v (mI u 3 (nzM (u.1 3) v)) := by
  intro Φ hp
  unfold wp_X9_tested wp_X9_tested_15
  unfold nzM at hp
  refine ⟨fun h => cmM_flag _ _ _ _ ⟨fun h0 => cmM_flag _ _ _ _ ?_, fun h0 => cmM_flag _ _ _ _ ?_⟩, fun h => cmM_flag _ _ _ _ ⟨fun h0 => cmM_flag _ _ _ _ ?_, fun h0 => cmM_flag _ _ _ _ ?_⟩⟩
  · rw [if_pos h, if_pos h0] at hp; show Φ v (upd (upd u.1 3 _) 3 _, u.2.1, u.2.2); rw [upd_upd]; exact hp
  · rw [if_pos h, if_neg h0] at hp; show Φ v (upd (upd u.1 3 _) 3 _, u.2.1, u.2.2); rw [upd_upd]; exact hp
  · rw [if_neg h, if_pos h0] at hp; show Φ v (upd (upd u.1 3 _) 3 _, u.2.1, u.2.2); rw [upd_upd]; exact hp
  · rw [if_neg h, if_neg h0] at hp; show Φ v (upd (upd u.1 3 _) 3 _, u.2.1, u.2.2); rw [upd_upd]; exact hp
theorem cmC_shown (s : S_Proc) (r : Int32) : Cm2 (wp_X5_shown s r) (r &&& 255) (sP s 4 (shP (s.1 4) (r &&& 255))) := by
  intro Φ hp
  unfold wp_X5_shown
  unfold shP at hp
  refine fun v1 e1 => ⟨fun h => ?_, fun h => ?_⟩
  · rw [if_pos h] at hp; rw [e1]; exact hp
  · rw [if_neg h] at hp; rw [e1]; exact hp
theorem RR.mark {K : Kp} {g : Nat} {s : S_Proc} {u : S_Model} (h : RR K g s u) (f on : Int32) (hf : (48 : Int32) &&& (f ^^^ -1) = 48) (hf8 : by8 f) : RR K g (sP s 4 (fl (s.1 4) f on)) (mI u 3 (fl (u.1 3) f on)) := by
  rw [h.1.1.2.2.2.2.1, fl_48 _ _ hf]
  exact h.p (by8_fl h.1.2.1.2.2.2.2.1 hf8 on)
theorem RR.shown {K : Kp} {g : Nat} {s : S_Proc} {u : S_Model} (h : RR K g s u) {v : Int32} (hv : by8 v) : RR K g (sP s 4 (shP (s.1 4) v)) (mI u 3 (nzM (u.1 3) v)) := by
  rw [h.1.1.2.2.2.2.1, sh_nz h.1.2.1.2.2.2.2.1 hv]
  exact h.p (by8_nz h.1.2.1.2.2.2.2.1 v)
