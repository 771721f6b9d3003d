/-! clock, put together; reset -/
theorem zRel.give {S T : xS} (h : zRel S T) {t x : Int} (hx : x = 0 ∨ x = 1) : zRel (xup S 27 t x) (xup T 5 t x) := by
  obtain ⟨h1, h2, h3, h4, h5, h6, h7⟩ := h
  refine ⟨?_, ?_, ?_, ?_, ?_, ?_, ?_⟩
  · unfold zFB at h1 ⊢
    rw [xup_q _ _ _ (by decide : (0 : Nat) ≠ 27), xup_q _ _ _ (by decide : (1 : Nat) ≠ 27)]
    exact h1
  · unfold zFA at h2 ⊢
    rw [xup_q _ _ _ (by decide : (2 : Nat) ≠ 27), xup_q _ _ _ (by decide : (3 : Nat) ≠ 27)]
    exact h2
  · unfold zQ at h3 ⊢
    rw [xup_q _ _ _ (by decide : (54 : Nat) ≠ 27), xup_q _ _ _ (by decide : (53 : Nat) ≠ 27), xup_q _ _ _ (by decide : (25 : Nat) ≠ 27)]
    exact h3
  · exact h4.of (xup_q _ _ _ (by decide)) (xup_q _ _ _ (by decide)) (xup_q _ _ _ (by decide)) (xup_q _ _ _ (by decide)) (xup_q _ _ _ (by decide)) (xup_q _ _ _ (by decide)) (xup_q _ _ _ (by decide)) (xup_q _ _ _ (by decide)) (xup_q _ _ _ (by decide)) (xup_q _ _ _ (by decide)) (xup_q _ _ _ (by decide)) (xup_q _ _ _ (by decide)) (xup_q _ _ _ (by decide)) (xup_q _ _ _ (by decide))
  · unfold zTile zRng zenc at h5 ⊢
    rw [xup_q _ _ _ (by decide : (26 : Nat) ≠ 27), xup_q T _ _ (by decide : (0 : Nat) ≠ 5), xup_q T _ _ (by decide : (1 : Nat) ≠ 5), xup_q T _ _ (by decide : (2 : Nat) ≠ 5), xup_q T _ _ (by decide : (3 : Nat) ≠ 5), xup_q T _ _ (by decide : (4 : Nat) ≠ 5)]
    refine ⟨h5.1, fun u u0 u1 => ⟨(h5.2 u u0 u1).1, ?_⟩⟩
    by_cases a : u = t
    · subst a
      rw [xup_s, xup_s]
      exact ⟨rfl, hx⟩
    · rw [xup_i _ _ _ a, xup_i _ _ _ a]
      exact (h5.2 u u0 u1).2
  · unfold zTrace at h6 ⊢
    rw [xup_q _ _ _ (by decide : (29 : Nat) ≠ 27), xup_q _ _ _ (by decide : (30 : Nat) ≠ 27), xup_q T _ _ (by decide : (3 : Nat) ≠ 5), xup_q T _ _ (by decide : (4 : Nat) ≠ 5)]
    exact h6
  · exact h7.of (xup_q _ _ _ (by decide)) (xup_q _ _ _ (by decide)) (xup_q _ _ _ (by decide)) (xup_q _ _ _ (by decide)) (xup_q _ _ _ (by decide))
theorem p_reg {S T : xS} (h : zRel S T) {t : Int} (ht : 0 ≤ t ∧ t < 16) : m_X5_hasRegister t S = some (T 1 t) ∧ (T 1 t = 0 ∨ T 1 t = 1) := by
  have hT := h.2.2.2.2.1.2 t ht.1 ht.2
  have hr := h.2.2.2.2.1.1
  have hr0 := hr.1 t ht.1 ht.2
  obtain ⟨b, e0, e1, _⟩ := zenc_all hr ht
  rw [p_hasReg ht (by rw [hT.1]; exact b), hT.1, e1]
  exact ⟨rfl, by omega⟩
theorem p_sweep (inp q : Int) : ∀ (d n m : Nat) (v : Int) (S T : xS), zRel S T → 0 ≤ v → v + d = 16 → d < n → d < m → ∃ S1 T1, m_X5_step_L10 inp q n v S = some S1 ∧ m_X9_clock_L10 inp q m v T = some T1 ∧ zRel S1 T1 := by
  intro d
  induction d with
  | zero =>
    intro n m v S T h h0 h1 h2 h3
    obtain ⟨n, rfl⟩ : ∃ j, n = j + 1 := ⟨n - 1, by omega⟩
    obtain ⟨m, rfl⟩ : ∃ j, m = j + 1 := ⟨m - 1, by omega⟩
    refine ⟨S, T, ?_, ?_, h⟩
    · unfold m_X5_step_L10
      simp (disch := omega) only [xr, xck_t, xck_T, if_pos, if_neg, if_true, if_false, xbs, or_true, true_or, and_true, true_and]
    · unfold m_X9_clock_L10
      simp (disch := omega) only [xr, xck_t, xck_T, if_pos, if_neg, if_true, if_false, xbs, or_true, true_or, and_true, true_and]
  | succ d ih =>
    intro n m v S T h h0 h1 h2 h3
    obtain ⟨n, rfl⟩ : ∃ j, n = j + 1 := ⟨n - 1, by omega⟩
    obtain ⟨m, rfl⟩ : ∃ j, m = j + 1 := ⟨m - 1, by omega⟩
    have hv : 0 ≤ v ∧ v < 16 := by omega
    obtain ⟨T1, l1, l2, l3, l4⟩ := p_look h (inp := inp) hv
    obtain ⟨r1, r2⟩ := p_reg h hv
    have hT := h.2.2.2.2.1.2 v hv.1 hv.2
    have f1 : T1 1 v = T 1 v := by rw [l3 1 (by decide) (by decide)]
    have f5 : T1 5 v = S 27 v := by rw [l3 5 (by decide) (by decide), hT.2.1]
    by_cases c : T 1 v = 0
    · obtain ⟨S2, T2, i1, i2, i3⟩ := ih n m (v + 1) (xup S 27 v (zlk S T inp v)) (xup T1 5 v (zlk S T inp v)) ((h.ofT l3).give l4) (by omega) (by omega) (by omega) (by omega)
      refine ⟨S2, T2, ?_, ?_, i3⟩
      · unfold m_X5_step_L10
        simp (disch := omega) only [xr, xck_t, xck_T, if_pos, if_neg, if_true, if_false, xbs, or_true, true_or, and_true, true_and, r1, l1]
        exact i1
      · unfold m_X9_clock_L10
        simp (disch := omega) only [xr, xck_t, xck_T, if_pos, if_neg, if_true, if_false, xbs, or_true, true_or, and_true, true_and, l2, f1]
        exact i2
    · obtain ⟨S2, T2, i1, i2, i3⟩ := ih n m (v + 1) (xup S 27 v (S 27 v)) (xup T1 5 v (S 27 v)) ((h.ofT l3).give (by rw [hT.2.1]; exact hT.2.2)) (by omega) (by omega) (by omega) (by omega)
      refine ⟨S2, T2, ?_, ?_, i3⟩
      · unfold m_X5_step_L10
        simp (disch := omega) only [xr, xck_t, xck_T, if_pos, if_neg, if_true, if_false, xbs, or_true, true_or, and_true, true_and, r1]
        exact i1
      · unfold m_X9_clock_L10
        simp (disch := omega) only [xr, xck_t, xck_T, if_pos, if_neg, if_true, if_false, xbs, or_true, true_or, and_true, true_and, l2, f1, f5]
        exact i2
theorem p_sweeps (inp : Int) : ∀ (d n m : Nat) (v : Int) (S T : xS), zRel S T → 0 ≤ v → v + d = 16 → d < n → d < m → ∃ S1 T1, m_X5_step_L2 inp n v S = some S1 ∧ m_X9_clock_L2 inp m v T = some T1 ∧ zRel S1 T1 := by
  intro d
  induction d with
  | zero =>
    intro n m v S T h h0 h1 h2 h3
    obtain ⟨n, rfl⟩ : ∃ j, n = j + 1 := ⟨n - 1, by omega⟩
    obtain ⟨m, rfl⟩ : ∃ j, m = j + 1 := ⟨m - 1, by omega⟩
    refine ⟨S, T, ?_, ?_, h⟩
    · unfold m_X5_step_L2
      simp (disch := omega) only [xr, xck_t, xck_T, if_pos, if_neg, if_true, if_false, xbs, or_true, true_or, and_true, true_and]
    · unfold m_X9_clock_L2
      simp (disch := omega) only [xr, xck_t, xck_T, if_pos, if_neg, if_true, if_false, xbs, or_true, true_or, and_true, true_and]
  | succ d ih =>
    intro n m v S T h h0 h1 h2 h3
    obtain ⟨n, rfl⟩ : ∃ j, n = j + 1 := ⟨n - 1, by omega⟩
    obtain ⟨m, rfl⟩ : ∃ j, m = j + 1 := ⟨m - 1, by omega⟩
    obtain ⟨S1, T1, a1, a2, a3⟩ := p_sweep inp v 16 2000 2000 0 S T h (by omega) (by omega) (by omega) (by omega)
    obtain ⟨S2, T2, i1, i2, i3⟩ := ih n m (v + 1) S1 T1 a3 (by omega) (by omega) (by omega) (by omega)
    refine ⟨S2, T2, ?_, ?_, i3⟩
    · unfold m_X5_step_L2
      rw [a1, xbs]
      simp (disch := omega) only [xr, xck_t, xck_T, if_pos, if_neg, if_true, if_false, xbs, or_true, true_or, and_true, true_and]
      exact i1
    · unfold m_X9_clock_L2
      rw [a2, xbs]
      simp (disch := omega) only [xr, xck_t, xck_T, if_pos, if_neg, if_true, if_false, xbs, or_true, true_or, and_true, true_and]
      exact i2
theorem p_lookOut {S T : xS} (h : zRel S T) {inp o : Int} (ho : 0 ≤ o ∧ o < 4) : ∃ T1, m_X9_outputOf o T = some (S 29 (48 + o), T1) ∧ m_X9_given (S 29 (48 + o)) inp T1 = some (zval S inp (S 29 (48 + o))) ∧ (∀ a, a ≠ 21 → a ≠ 53 → T1 a = T a) ∧ (zval S inp (S 29 (48 + o)) = 0 ∨ zval S inp (S 29 (48 + o)) = 1) ∧ m_X5_valueAt (48 + o) inp S = some (zval S inp (S 29 (48 + o))) := by
  obtain ⟨r, T1, e1, e2, e3, e4⟩ := p_outputOf h (p1 := o) ⟨by omega, by omega⟩
  obtain ⟨f1, f2, f3⟩ := e4 ho
  have hi := (zT_in h).2 o ho.1 ho.2
  have hv := p_val e3.2.2.2.2.1 (inp := inp) hi
  refine ⟨T1, by rw [e2, f1], hv.1, f3, hv.2, p_valX ⟨by omega, by omega⟩ hi⟩
theorem s_61x {S : xS} {inp a v x y : Int} (hv : 0 ≤ v ∧ v < 4) (e : m_X5_valueAt (48 + v) inp S = some x) (ho : xb_ior a (xb_ishl x v) = y) (n : Nat) : m_X5_step_L61 inp S (n + 1) a v = m_X5_step_L61 inp S n y (v + 1) := by
  conv => lhs; unfold m_X5_step_L61
  simp (disch := omega) only [xr, xck_t, xck_T, if_pos, if_neg, if_true, if_false, xbs, or_true, true_or, and_true, true_and, e, ho]
theorem s_61xe {S : xS} {inp a v : Int} (hv : v = 4) (n : Nat) : m_X5_step_L61 inp S (n + 1) a v = some a := by
  unfold m_X5_step_L61
  simp (disch := omega) only [xr, xck_t, xck_T, if_pos, if_neg, if_true, if_false, xbs, or_true, true_or, and_true, true_and]
theorem s_66 {T T1 : xS} {inp a v x y o : Int} (hv : 0 ≤ v ∧ v < 4) (e : m_X9_outputOf v T = some (o, T1)) (e2 : m_X9_given o inp T1 = some x) (ho : a + xb_ishl x v = y) (n : Nat) : m_X9_clock_L66 inp (n + 1) a v T = m_X9_clock_L66 inp n y (v + 1) T1 := by
  conv => lhs; unfold m_X9_clock_L66
  simp (disch := omega) only [xr, xck_t, xck_T, if_pos, if_neg, if_true, if_false, xbs, or_true, true_or, and_true, true_and, e, e2, ho]
theorem s_66e {T : xS} {inp a v : Int} (hv : v = 4) (n : Nat) : m_X9_clock_L66 inp (n + 1) a v T = some (a, T) := by
  unfold m_X9_clock_L66
  simp (disch := omega) only [xr, xck_t, xck_T, if_pos, if_neg, if_true, if_false, xbs, or_true, true_or, and_true, true_and]
theorem p_outs {S T : xS} (h : zRel S T) (inp : Int) : ∃ r T1, m_X5_step_L61 inp S 2000 0 0 = some r ∧ m_X9_clock_L66 inp 2000 0 0 T = some (r, T1) ∧ (∀ a, a ≠ 21 → a ≠ 53 → T1 a = T a) := by
  obtain ⟨T1, a1, a2, a3, a4, a5⟩ := p_lookOut h (inp := inp) (o := 0) ⟨by omega, by omega⟩
  obtain ⟨T2, b1, b2, b3, b4, b5⟩ := p_lookOut (h.ofT a3) (inp := inp) (o := 0 + 1) ⟨by omega, by omega⟩
  obtain ⟨T3, c1, c2, c3, c4, c5⟩ := p_lookOut ((h.ofT a3).ofT b3) (inp := inp) (o := 0 + 1 + 1) ⟨by omega, by omega⟩
  obtain ⟨T4, d1, d2, d3, d4, d5⟩ := p_lookOut (((h.ofT a3).ofT b3).ofT c3) (inp := inp) (o := 0 + 1 + 1 + 1) ⟨by omega, by omega⟩
  generalize zval S inp (S 29 (48 + 0)) = v0 at *
  generalize zval S inp (S 29 (48 + (0 + 1))) = v1 at *
  generalize zval S inp (S 29 (48 + (0 + 1 + 1))) = v2 at *
  generalize zval S inp (S 29 (48 + (0 + 1 + 1 + 1))) = v3 at *
  have o0 := x_or (a := 0) (v := v0) (k := 0) (P := 1) rfl a4 (by decide) (by decide)
  have o1 := x_or (a := 0 + v0 * 1) (v := v1) (k := 0 + 1) (P := 2) rfl b4 (by decide) (by omega)
  have o2 := x_or (a := 0 + v0 * 1 + v1 * 2) (v := v2) (k := 0 + 1 + 1) (P := 4) rfl c4 (by decide) (by omega)
  have o3 := x_or (a := 0 + v0 * 1 + v1 * 2 + v2 * 4) (v := v3) (k := 0 + 1 + 1 + 1) (P := 8) rfl d4 (by decide) (by omega)
  have q0 := x_shl (v := v0) (k := 0) a4 (by decide)
  have q1 := x_shl (v := v1) (k := 0 + 1) b4 (by decide)
  have q2 := x_shl (v := v2) (k := 0 + 1 + 1) c4 (by decide)
  have q3 := x_shl (v := v3) (k := 0 + 1 + 1 + 1) d4 (by decide)
  refine ⟨0 + v0 * 1 + v1 * 2 + v2 * 4 + v3 * 8, T4, ?_, ?_, fun a z1 z2 => by rw [d3 a z1 z2, c3 a z1 z2, b3 a z1 z2, a3 a z1 z2]⟩
  · rw [s_61x (by decide) a5 o0 1999, s_61x (by decide) b5 o1 1998, s_61x (by decide) c5 o2 1997, s_61x (by decide) d5 o3 1996, s_61xe (v := 0 + 1 + 1 + 1 + 1) (by decide) 1995]
  · rw [s_66 (by decide) a1 a2 rfl 1999, s_66 (by decide) b1 b2 rfl 1998, s_66 (by decide) c1 c2 rfl 1997, s_66 (by decide) d1 d2 rfl 1996, s_66e (v := 0 + 1 + 1 + 1 + 1) (by decide) 1995, q0, q1, q2, q3]
    rfl
/-- a number out of its bits -/
def zw (f : Int → Int) : Nat → Int
  | 0 => 0
  | n + 1 => zw f n + f n * 2 ^ n
theorem zw_16 (f : Int → Int) (hf : ∀ j, 0 ≤ j → j < 16 → 0 ≤ f j ∧ f j ≤ 1) : (0 ≤ zw f 16 ∧ zw f 16 < 65536) ∧ ∀ v, 0 ≤ v → v < 16 → xb_iand (xb_ishr (zw f 16) v) 1 = f v := by
  have e : zw f 16 = f 0 + 2 * f 1 + 4 * f 2 + 8 * f 3 + 16 * f 4 + 32 * f 5 + 64 * f 6 + 128 * f 7 + 256 * f 8 + 512 * f 9 + 1024 * f 10 + 2048 * f 11 + 4096 * f 12 + 8192 * f 13 + 16384 * f 14 + 32768 * f 15 := by
    show 0 + f 0 * 1 + f 1 * 2 + f 2 * 4 + f 3 * 8 + f 4 * 16 + f 5 * 32 + f 6 * 64 + f 7 * 128 + f 8 * 256 + f 9 * 512 + f 10 * 1024 + f 11 * 2048 + f 12 * 4096 + f 13 * 8192 + f 14 * 16384 + f 15 * 32768 = _
    omega
  have h0 := hf 0 (by decide) (by decide)
  have h1 := hf 1 (by decide) (by decide)
  have h2 := hf 2 (by decide) (by decide)
  have h3 := hf 3 (by decide) (by decide)
  have h4 := hf 4 (by decide) (by decide)
  have h5 := hf 5 (by decide) (by decide)
  have h6 := hf 6 (by decide) (by decide)
  have h7 := hf 7 (by decide) (by decide)
  have h8 := hf 8 (by decide) (by decide)
  have h9 := hf 9 (by decide) (by decide)
  have h10 := hf 10 (by decide) (by decide)
  have h11 := hf 11 (by decide) (by decide)
  have h12 := hf 12 (by decide) (by decide)
  have h13 := hf 13 (by decide) (by decide)
  have h14 := hf 14 (by decide) (by decide)
  have h15 := hf 15 (by decide) (by decide)
  have hb : 0 ≤ zw f 16 ∧ zw f 16 < 65536 := by
    rw [e]
    omega
  refine ⟨hb, fun v v0 v1 => ?_⟩
  rw [xb_shr ⟨hb.1, by omega⟩ ⟨v0, by omega⟩]
  have hd : ∀ P : Int, 0 < P → 0 ≤ zw f 16 / P ∧ zw f 16 / P < 2147483648 := fun P hP => by
    have l1 := Int.ediv_nonneg hb.1 (Int.le_of_lt hP)
    have l2 := Int.ediv_le_self P hb.1
    omega
  rw [xb_and1n (hd _ (Int.pow_pos (by decide))), e]
  rcases (show v = 0 ∨ v = 1 ∨ v = 2 ∨ v = 3 ∨ v = 4 ∨ v = 5 ∨ v = 6 ∨ v = 7 ∨ v = 8 ∨ v = 9 ∨ v = 10 ∨ v = 11 ∨ v = 12 ∨ v = 13 ∨ v = 14 ∨ v = 15 by omega) with rfl | rfl | rfl | rfl | rfl | rfl | rfl | rfl | rfl | rfl | rfl | rfl | rfl | rfl | rfl | rfl
  · show _ / 1 % 2 = _; omega
  · show _ / 2 % 2 = _; omega
  · show _ / 4 % 2 = _; omega
  · show _ / 8 % 2 = _; omega
  · show _ / 16 % 2 = _; omega
  · show _ / 32 % 2 = _; omega
  · show _ / 64 % 2 = _; omega
  · show _ / 128 % 2 = _; omega
  · show _ / 256 % 2 = _; omega
  · show _ / 512 % 2 = _; omega
  · show _ / 1024 % 2 = _; omega
  · show _ / 2048 % 2 = _; omega
  · show _ / 4096 % 2 = _; omega
  · show _ / 8192 % 2 = _; omega
  · show _ / 16384 % 2 = _; omega
  · show _ / 32768 % 2 = _; omega
