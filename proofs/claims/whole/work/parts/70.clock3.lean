/-! clock and reset, the end -/
theorem zRel.give2 {S T S1 T1 : xS} (h : zRel S T) (hS : ∀ q, (q ≤ 9 ∨ q = 25 ∨ q = 26 ∨ q = 29 ∨ q = 30 ∨ q = 33 ∨ q = 50 ∨ q = 52 ∨ q = 53 ∨ q = 54) → S1 q = S q) (hT : ∀ q, (q ≤ 4 ∨ (6 ≤ q ∧ q ≤ 12) ∨ q = 50 ∨ q = 51 ∨ q = 52) → T1 q = T q) (hg : ∀ t, 0 ≤ t → t < 16 → S1 27 t = T1 5 t ∧ (T1 5 t = 0 ∨ T1 5 t = 1)) : zRel S1 T1 := by
  obtain ⟨h1, h2, h3, h4, h5, h6, h7⟩ := h
  refine ⟨?_, ?_, ?_, ?_, ?_, ?_, ?_⟩
  · unfold zFB at h1 ⊢
    rw [hS 0 (by decide), hS 1 (by decide)]
    exact h1
  · unfold zFA at h2 ⊢
    rw [hS 2 (by decide), hS 3 (by decide)]
    exact h2
  · unfold zQ at h3 ⊢
    rw [hS 54 (by decide), hS 53 (by decide), hS 25 (by decide)]
    exact h3
  · exact h4.of (hS 50 (by decide)) (hS 4 (by decide)) (hS 5 (by decide)) (hS 6 (by decide)) (hS 7 (by decide)) (hS 8 (by decide)) (hS 9 (by decide)) (hT 50 (by decide)) (hT 6 (by decide)) (hT 7 (by decide)) (hT 8 (by decide)) (hT 9 (by decide)) (hT 10 (by decide)) (hT 11 (by decide))
  · unfold zTile zRng zenc at h5 ⊢
    rw [hS 26 (by decide), hT 0 (by decide), hT 1 (by decide), hT 2 (by decide), hT 3 (by decide), hT 4 (by decide)]
    exact ⟨h5.1, fun u u0 u1 => ⟨(h5.2 u u0 u1).1, hg u u0 u1⟩⟩
  · unfold zTrace at h6 ⊢
    rw [hS 29 (by decide), hS 30 (by decide), hT 3 (by decide), hT 4 (by decide)]
    exact h6
  · exact h7.of (hS 33 (by decide)) (hS 52 (by decide)) (hT 51 (by decide)) (hT 52 (by decide)) (hT 12 (by decide))
theorem zlk_of {S T S1 T1 : xS} (inp t : Int) (h27 : S1 27 = S 27) (h29 : S1 29 = S 29) (h0 : T1 0 = T 0) : zlk S1 T1 inp t = zlk S T inp t := by
  unfold zlk zval
  rw [h27, h29, h0]
/-- what a tile's outlet gives behind the clock -/
def znx (S T : xS) (inp t : Int) : Int := if T 1 t = 0 then S 27 t else zlk S T inp t
theorem p_regsX {S T : xS} (h : zRel S T) (inp : Int) : ∀ (d n : Nat) (v : Int) (S1 : xS), (∀ q, q ≠ 28 → S1 q = S q) → 0 ≤ v → v + d = 16 → d < n → (∀ j, 0 ≤ j → j < v → S1 28 j = znx S T inp j) → ∃ S2, m_X5_stepRegisters_L2 inp n v S1 = some S2 ∧ (∀ q, q ≠ 28 → S2 q = S q) ∧ (∀ j, 0 ≤ j → j < 16 → S2 28 j = znx S T inp j) := by
  intro d
  induction d with
  | zero =>
    intro n v S1 hS h0 h1 h2 hj
    obtain ⟨n, rfl⟩ : ∃ j, n = j + 1 := ⟨n - 1, by omega⟩
    refine ⟨S1, ?_, hS, fun j j0 j1 => hj j j0 (by omega)⟩
    unfold m_X5_stepRegisters_L2
    simp (disch := omega) only [xr, xck_t, xck_T, if_pos, if_neg, if_true, if_false, xbs, or_true, true_or, and_true, true_and]
  | succ d ih =>
    intro n v S1 hS h0 h1 h2 hj
    obtain ⟨n, rfl⟩ : ∃ j, n = j + 1 := ⟨n - 1, by omega⟩
    have hv : 0 ≤ v ∧ v < 16 := by omega
    have h1R : zRel S1 T := h.of (fun q hq => hS q (by omega)) (fun _ _ => rfl)
    obtain ⟨T1, l1, l2, l3, l4⟩ := p_look h1R (inp := inp) hv
    obtain ⟨r1, r2⟩ := p_reg h1R hv
    rw [zlk_of inp v (hS 27 (by decide)) (hS 29 (by decide)) rfl] at l1
    obtain ⟨S2, i1, i2, i3⟩ := ih n (v + 1) (xup S1 28 v (znx S T inp v)) (fun q hq => by rw [xup_q _ _ _ hq]; exact hS q hq) (by omega) (by omega) (by omega) (fun j j0 j1 => by
      by_cases e : j = v
      · rw [e, xup_s]
      · rw [xup_i _ _ _ e]
        exact hj j j0 (by omega))
    refine ⟨S2, ?_, i2, i3⟩
    unfold m_X5_stepRegisters_L2
    unfold znx at i1
    by_cases c : T 1 v = 0
    · rw [if_pos c] at i1
      simp (disch := omega) only [xr, xck_t, xck_T, if_pos, if_neg, if_true, if_false, xbs, or_true, true_or, and_true, true_and, r1]
      rw [hS 27 (by decide)]
      exact i1
    · rw [if_neg c] at i1
      simp (disch := omega) only [xr, xck_t, xck_T, if_pos, if_neg, if_true, if_false, xbs, or_true, true_or, and_true, true_and, r1, l1]
      exact i1
theorem p_regsY {S T : xS} (h : zRel S T) (inp q : Int) : ∀ (d n v : Nat) (T1 : xS), (∀ a, a ≠ 21 → a ≠ 53 → T1 a = T a) → v + d = 16 → d < n → ∃ T2, m_X9_clock_L101 inp q n (zw (zlk S T inp) v) (v : Int) T1 = some (zw (zlk S T inp) 16, T2) ∧ (∀ a, a ≠ 21 → a ≠ 53 → T2 a = T a) := by
  intro d
  induction d with
  | zero =>
    intro n v T1 hT h1 h2
    obtain ⟨n, rfl⟩ : ∃ j, n = j + 1 := ⟨n - 1, by omega⟩
    refine ⟨T1, ?_, hT⟩
    have hv : v = 16 := by omega
    subst hv
    unfold m_X9_clock_L101
    simp (disch := omega) only [xr, xck_t, xck_T, if_pos, if_neg, if_true, if_false, xbs, or_true, true_or, and_true, true_and]
  | succ d ih =>
    intro n v T1 hT h1 h2
    obtain ⟨n, rfl⟩ : ∃ j, n = j + 1 := ⟨n - 1, by omega⟩
    have h1R : zRel S T1 := h.ofT hT
    obtain ⟨T2, l1, l2, l3, l4⟩ := p_look h1R (inp := inp) (t := (v : Int)) ⟨by omega, by omega⟩
    rw [zlk_of inp v rfl rfl (hT 0 (by decide) (by decide))] at l2 l4
    obtain ⟨T3, i1, i2⟩ := ih n (v + 1) T2 (fun a z1 z2 => by rw [l3 a z1 z2, hT a z1 z2]) (by omega) (by omega)
    refine ⟨T3, ?_, i2⟩
    unfold m_X9_clock_L101
    simp (disch := omega) only [xr, xck_t, xck_T, if_pos, if_neg, if_true, if_false, xbs, or_true, true_or, and_true, true_and, l2]
    rw [x_shl l4 ⟨by omega, by omega⟩]
    exact i1
theorem p_regsZ {T : xS} {f : Int → Int} {p3 : Int} (hp : ∀ v, 0 ≤ v → v < 16 → xb_iand (xb_ishr p3 v) 1 = f v) (q : Int) (h1 : ∀ t, 0 ≤ t → t < 16 → T 1 t = 0 ∨ T 1 t = 1) : ∀ (d n : Nat) (v : Int) (T1 : xS), (∀ a, a ≠ 5 → T1 a = T a) → 0 ≤ v → v + d = 16 → d < n → (∀ j, 0 ≤ j → j < 16 → T1 5 j = if j < v then (if T 1 j = 0 then T 5 j else f j) else T 5 j) → ∃ T2, m_X9_clock_L130 q p3 n v T1 = some T2 ∧ (∀ a, a ≠ 5 → T2 a = T a) ∧ (∀ j, 0 ≤ j → j < 16 → T2 5 j = if T 1 j = 0 then T 5 j else f j) := by
  intro d
  induction d with
  | zero =>
    intro n v T1 hT h0 hd h2 hj
    obtain ⟨n, rfl⟩ : ∃ j, n = j + 1 := ⟨n - 1, by omega⟩
    refine ⟨T1, ?_, hT, fun j j0 j1 => ?_⟩
    · unfold m_X9_clock_L130
      simp (disch := omega) only [xr, xck_t, xck_T, if_pos, if_neg, if_true, if_false, xbs, or_true, true_or, and_true, true_and]
    · rw [hj j j0 j1, if_pos (by omega)]
  | succ d ih =>
    intro n v T1 hT h0 hd h2 hj
    obtain ⟨n, rfl⟩ : ∃ j, n = j + 1 := ⟨n - 1, by omega⟩
    have hv : 0 ≤ v ∧ v < 16 := by omega
    have e1 : T1 1 = T 1 := hT 1 (by decide)
    have e5 := hj v hv.1 hv.2
    rw [if_neg (by omega)] at e5
    have r1 := h1 v hv.1 hv.2
    obtain ⟨T2, i1, i2, i3⟩ := ih n (v + 1) (xup T1 5 v (if T 1 v = 0 then T 5 v else f v)) (fun a ha => by rw [xup_q _ _ _ ha]; exact hT a ha) (by omega) (by omega) (by omega) (fun j j0 j1 => by
      by_cases e : j = v
      · rw [e, xup_s, if_pos (show v < v + 1 by omega)]
      · rw [xup_i _ _ _ e, hj j j0 j1]
        by_cases c : j < v
        · rw [if_pos c, if_pos (show j < v + 1 by omega)]
        · rw [if_neg c, if_neg (show ¬ j < v + 1 by omega)])
    refine ⟨T2, ?_, i2, i3⟩
    unfold m_X9_clock_L130
    rw [e1, hp v hv.1 hv.2]
    by_cases c : T 1 v = 0
    · rw [if_pos c] at i1
      simp (disch := omega) only [xr, xck_t, xck_T, if_pos, if_neg, if_true, if_false, xbs, or_true, true_or, and_true, true_and, e5]
      exact i1
    · rw [if_neg c] at i1
      simp (disch := omega) only [xr, xck_t, xck_T, if_pos, if_neg, if_true, if_false, xbs, or_true, true_or, and_true, true_and]
      exact i1
theorem p_clock {S T : xS} (h : zRel S T) (inp : Int) : ∃ r S1 T1, m_X8_clock inp S = some (r, S1) ∧ m_X9_clock inp T = some (r, T1) ∧ zRel S1 T1 := by
  obtain ⟨S1, T1, a1, a2, a3⟩ := p_sweeps inp 16 2000 2000 0 S T h (by omega) (by omega) (by omega) (by omega)
  obtain ⟨r, T2, b1, b2, b3⟩ := p_outs a3 inp
  have a4 := a3.ofT b3
  obtain ⟨S3, c1, c2, c3⟩ := p_regsX a4 inp 16 2000 0 S1 (fun _ _ => rfl) (by omega) (by omega) (by omega) (fun j j0 j1 => by omega)
  obtain ⟨T3, d1, d2⟩ := p_regsY a4 inp r 16 2000 0 T2 (fun _ _ _ => rfl) (by omega) (by omega)
  have hl : ∀ j, 0 ≤ j → j < 16 → zlk S1 T2 inp j = 0 ∨ zlk S1 T2 inp j = 1 := fun j j0 j1 => by
    obtain ⟨_, _, _, _, q⟩ := p_look a4 (inp := inp) ⟨j0, j1⟩
    exact q
  have hz := zw_16 (zlk S1 T2 inp) (fun j j0 j1 => by have := hl j j0 j1; omega)
  have h1 : ∀ t, 0 ≤ t → t < 16 → T3 1 t = 0 ∨ T3 1 t = 1 := fun t t0 t1 => by
    rw [d2 1 (by decide) (by decide)]
    exact (p_reg a4 ⟨t0, t1⟩).2
  obtain ⟨T4, e1, e2, e3⟩ := p_regsZ (T := T3) hz.2 r h1 16 2000 0 T3 (fun _ _ => rfl) (by omega) (by omega) (by omega) (fun j j0 j1 => by rw [if_neg (by omega)])
  refine ⟨r, xcp S3 28 27 16, T4, ?_, ?_, ?_⟩
  · unfold m_X8_clock m_X5_step m_X5_stepRegisters
    rw [a1, xbs, b1, xbs, c1, xbs, xbs, xbs]
  · unfold m_X9_clock
    rw [a2, xbs, b2, xbs]
    have d1b : m_X9_clock_L101 inp r 2000 0 0 T2 = some (zw (zlk S1 T2 inp) 16, T3) := d1
    dsimp only
    rw [d1b, xbs]
    dsimp only
    rw [e1, xbs]
  · refine a4.give2 (fun q hq => ?_) (fun q hq => ?_) (fun t t0 t1 => ?_)
    · rw [xcp_q _ _ (by omega)]
      exact c2 q (by omega)
    · rw [e2 q (by omega)]
      exact d2 q (by omega) (by omega)
    · have hx : xcp S3 28 27 16 27 t = S3 28 t := if_pos ⟨rfl, t0, t1⟩
      have hg := (a4.2.2.2.2.1.2 t t0 t1).2
      rw [hx, c3 t t0 t1, e3 t t0 t1]
      unfold znx
      rw [d2 1 (by decide) (by decide), d2 5 (by decide) (by decide)]
      by_cases c : T2 1 t = 0
      · rw [if_pos c, if_pos c]
        exact hg
      · rw [if_neg c, if_neg c]
        exact ⟨rfl, hl t t0 t1⟩
/-- reset: the array's part -/
theorem p_reset1 : ∀ (d n m : Nat) (v : Int) (S T : xS), zRel S T → 0 ≤ v → v + d = 16 → d < n → d < m → ∃ S1 T1, m_X5_restart_L2 n v S = some S1 ∧ m_X9_reset_L2 m v T = some T1 ∧ zRel S1 T1 := by
  intro d
  induction d with
  | zero =>
    intro n m v S T h h0 h1 h2 h3
    obtain ⟨n, rfl⟩ : ∃ j, n = j + 1 := ⟨n - 1, by omega⟩
    obtain ⟨m, rfl⟩ : ∃ j, m = j + 1 := ⟨m - 1, by omega⟩
    refine ⟨S, T, ?_, ?_, h⟩
    · unfold m_X5_restart_L2
      simp (disch := omega) only [xr, xck_t, xck_T, if_pos, if_neg, if_true, if_false, xbs, or_true, true_or, and_true, true_and]
    · unfold m_X9_reset_L2
      simp (disch := omega) only [xr, xck_t, xck_T, if_pos, if_neg, if_true, if_false, xbs, or_true, true_or, and_true, true_and]
  | succ d ih =>
    intro n m v S T h h0 h1 h2 h3
    obtain ⟨n, rfl⟩ : ∃ j, n = j + 1 := ⟨n - 1, by omega⟩
    obtain ⟨m, rfl⟩ : ∃ j, m = j + 1 := ⟨m - 1, by omega⟩
    have hv : 0 ≤ v ∧ v < 16 := by omega
    obtain ⟨r1, r2⟩ := p_reg h hv
    have hT := h.2.2.2.2.1.2 v hv.1 hv.2
    have hr := h.2.2.2.2.1.1
    obtain ⟨b, e0, e1, e2, _⟩ := zenc_all hr hv
    have hr0 := hr.1 v hv.1 hv.2
    have e9 : ((Int64.ofInt (S 26 v) >>> ((xi 9).toInt64 &&& 63) &&& (1 : Int64)).toInt32.toInt) = T 2 v := by
      rw [hT.1, xl_fld (k := 9) (j := 1) (m := 1) (P := 512) (M := 2) b (by decide) (by decide) rfl rfl rfl, xl_i ⟨by omega, by omega⟩, e2]
    have e2b : (if T 2 v = 0 then some (0 : Int) else some 1) = some (T 2 v) := by
      rcases (show T 2 v = 0 ∨ T 2 v = 1 by omega) with q | q <;> rw [q] <;> rfl
    have hx : (if T 1 v = 0 then 0 else T 2 v) = 0 ∨ (if T 1 v = 0 then 0 else T 2 v) = 1 := by
      by_cases c : T 1 v = 0
      · rw [if_pos c]
        exact Or.inl rfl
      · rw [if_neg c]
        omega
    obtain ⟨S2, T2, i1, i2, i3⟩ := ih n m (v + 1) _ _ (h.give (t := v) hx) (by omega) (by omega) (by omega) (by omega)
    refine ⟨S2, T2, ?_, ?_, i3⟩
    · unfold m_X5_restart_L2
      rw [e9]
      by_cases c : T 1 v = 0
      · rw [if_pos c] at i1
        simp (disch := omega) only [xr, xck_t, xck_T, if_pos, if_neg, if_true, if_false, xbs, or_true, true_or, and_true, true_and, r1]
        exact i1
      · rw [if_neg c] at i1
        simp (disch := omega) only [xr, xck_t, xck_T, if_pos, if_neg, if_true, if_false, xbs, or_true, true_or, and_true, true_and, r1]
        exact i1
    · unfold m_X9_reset_L2
      rw [e2b]
      by_cases c : T 1 v = 0
      · rw [if_pos c] at i2
        simp (disch := omega) only [xr, xck_t, xck_T, if_pos, if_neg, if_true, if_false, xbs, or_true, true_or, and_true, true_and]
        exact i2
      · rw [if_neg c] at i2
        simp (disch := omega) only [xr, xck_t, xck_T, if_pos, if_neg, if_true, if_false, xbs, or_true, true_or, and_true, true_and]
        exact i2
/-- reset: the circuit's part -/
theorem p_reset2 : ∀ (d n m : Nat) (v : Int) (S T : xS), zRel S T → 0 ≤ v → v ≤ S 50 0 → v + d = S 50 0 → d < n → d < m → ∃ S1 T1, m_X0_restart_L2 n v S = some S1 ∧ m_X9_reset_L45 m v T = some T1 ∧ zRel S1 T1 := by
  intro d
  induction d with
  | zero =>
    intro n m v S T h h0 hle h1 h2 h3
    obtain ⟨n, rfl⟩ : ∃ j, n = j + 1 := ⟨n - 1, by omega⟩
    obtain ⟨m, rfl⟩ : ∃ j, m = j + 1 := ⟨m - 1, by omega⟩
    obtain ⟨hn, e50, _⟩ := h.2.2.2.1
    refine ⟨S, T, ?_, ?_, h⟩
    · unfold m_X0_restart_L2
      simp (disch := omega) only [xr, xck_t, xck_T, if_pos, if_neg, if_true, if_false, xbs, or_true, true_or, and_true, true_and]
    · unfold m_X9_reset_L45
      rw [e50]
      simp (disch := omega) only [xr, xck_t, xck_T, if_pos, if_neg, if_true, if_false, xbs, or_true, true_or, and_true, true_and]
  | succ d ih =>
    intro n m v S T h h0 hle h1 h2 h3
    obtain ⟨n, rfl⟩ : ∃ j, n = j + 1 := ⟨n - 1, by omega⟩
    obtain ⟨m, rfl⟩ : ∃ j, m = j + 1 := ⟨m - 1, by omega⟩
    obtain ⟨hn, e50, hc, hs, h7⟩ := h.2.2.2.1
    obtain ⟨q1, q2, q3, q4, q5, q6, q7, q8, q9, q10⟩ := hc v h0 (by omega)
    have rel : ∀ x : Int, (x = 0 ∨ x = 1) → (S 5 v = 1 → x = S 6 v) → zRel (xup S 9 v x) (xup T 9 v (S 6 v)) := fun x hx hx2 => by
      obtain ⟨g1, g2, g3, g4, g5, g6, g7⟩ := h
      refine ⟨?_, ?_, ?_, ?_, ?_, ?_, ?_⟩
      · unfold zFB at g1 ⊢
        rw [xup_q _ _ _ (by decide : (0 : Nat) ≠ 9), xup_q _ _ _ (by decide : (1 : Nat) ≠ 9)]
        exact g1
      · unfold zFA at g2 ⊢
        rw [xup_q _ _ _ (by decide : (2 : Nat) ≠ 9), xup_q _ _ _ (by decide : (3 : Nat) ≠ 9)]
        exact g2
      · unfold zQ at g3 ⊢
        rw [xup_q _ _ _ (by decide : (54 : Nat) ≠ 9), xup_q _ _ _ (by decide : (53 : Nat) ≠ 9), xup_q _ _ _ (by decide : (25 : Nat) ≠ 9)]
        exact g3
      · refine ⟨?_, ?_, ?_, ?_, ?_⟩
        · simp (disch := omega) only [xr, xck_t, xck_T, if_pos, if_neg, if_true, if_false, xbs, or_true, true_or, and_true, true_and, xup_q]
          exact hn
        · simp (disch := omega) only [xr, xck_t, xck_T, if_pos, if_neg, if_true, if_false, xbs, or_true, true_or, and_true, true_and, xup_q]
          exact e50
        · intro c c0 c1
          have c1 : c < S 50 0 := by simpa (disch := omega) only [xup_q] using c1
          have hcc := hc c c0 c1
          by_cases hk : c = v
          · subst hk
            simp (disch := omega) only [xr, xck_t, xck_T, if_pos, if_neg, if_true, if_false, xbs, or_true, true_or, and_true, true_and, xup_s, xup_q]
            obtain ⟨a1, a2, a3, a4, a5, a6, a7, a8, a9, a10⟩ := hcc
            exact ⟨a1, a2, a3, a4, a5, a6, a7, a8, hx, fun q => (hx2 q).symm⟩
          · simp (disch := omega) only [xr, xck_t, xck_T, if_pos, if_neg, if_true, if_false, xbs, or_true, true_or, and_true, true_and, xup_i, xup_q]
            exact hcc
        · simp (disch := omega) only [xr, xck_t, xck_T, if_pos, if_neg, if_true, if_false, xbs, or_true, true_or, and_true, true_and, xup_q]
          exact hs
        · simp (disch := omega) only [xr, xck_t, xck_T, if_pos, if_neg, if_true, if_false, xbs, or_true, true_or, and_true, true_and, xup_q]
          exact h7
      · unfold zTile zRng zenc at g5 ⊢
        rw [xup_q S _ _ (by decide : (26 : Nat) ≠ 9), xup_q S _ _ (by decide : (27 : Nat) ≠ 9), xup_q T _ _ (by decide : (0 : Nat) ≠ 9), xup_q T _ _ (by decide : (1 : Nat) ≠ 9), xup_q T _ _ (by decide : (2 : Nat) ≠ 9), xup_q T _ _ (by decide : (3 : Nat) ≠ 9), xup_q T _ _ (by decide : (4 : Nat) ≠ 9), xup_q T _ _ (by decide : (5 : Nat) ≠ 9)]
        exact g5
      · unfold zTrace at g6 ⊢
        rw [xup_q S _ _ (by decide : (29 : Nat) ≠ 9), xup_q S _ _ (by decide : (30 : Nat) ≠ 9), xup_q T _ _ (by decide : (3 : Nat) ≠ 9), xup_q T _ _ (by decide : (4 : Nat) ≠ 9)]
        exact g6
      · exact g7.of (xup_q _ _ _ (by decide)) (xup_q _ _ _ (by decide)) (xup_q _ _ _ (by decide)) (xup_q _ _ _ (by decide)) (xup_q _ _ _ (by decide))
    have e8 : (if T 8 v = 0 then some (0 : Int) else some 1) = some (S 6 v) := by
      rw [q5]
      rcases q6 with q | q <;> rw [q] <;> rfl
    rcases q4 with c | c
    · obtain ⟨S2, T2, i1, i2, i3⟩ := ih n m (v + 1) (xup S 9 v (S 9 v)) (xup T 9 v (S 6 v)) (rel _ q9 (fun q => by omega)) (by omega) (by rw [xup_q _ _ _ (by decide : (50 : Nat) ≠ 9)]; omega) (by rw [xup_q _ _ _ (by decide : (50 : Nat) ≠ 9)]; omega) (by omega) (by omega)
      have ex : xup S 9 v (S 9 v) = S := by
        funext q i
        unfold xup
        by_cases e : q = 9 ∧ i = v
        · rw [if_pos e, e.1, e.2]
        · rw [if_neg e]
      rw [ex] at i1
      refine ⟨S2, T2, ?_, ?_, i3⟩
      · unfold m_X0_restart_L2
        simp (disch := omega) only [xr, xck_t, xck_T, if_pos, if_neg, if_true, if_false, xbs, or_true, true_or, and_true, true_and, c]
        exact i1
      · unfold m_X9_reset_L45
        rw [e50, e8, q5]
        simp (disch := omega) only [xr, xck_t, xck_T, if_pos, if_neg, if_true, if_false, xbs, or_true, true_or, and_true, true_and]
        exact i2
    · obtain ⟨S2, T2, i1, i2, i3⟩ := ih n m (v + 1) (xup S 9 v (S 6 v)) (xup T 9 v (S 6 v)) (rel _ q6 (fun q => rfl)) (by omega) (by rw [xup_q _ _ _ (by decide : (50 : Nat) ≠ 9)]; omega) (by rw [xup_q _ _ _ (by decide : (50 : Nat) ≠ 9)]; omega) (by omega) (by omega)
      refine ⟨S2, T2, ?_, ?_, i3⟩
      · unfold m_X0_restart_L2
        simp (disch := omega) only [xr, xck_t, xck_T, if_pos, if_neg, if_true, if_false, xbs, or_true, true_or, and_true, true_and, c]
        exact i1
      · unfold m_X9_reset_L45
        rw [e50, e8, q5]
        simp (disch := omega) only [xr, xck_t, xck_T, if_pos, if_neg, if_true, if_false, xbs, or_true, true_or, and_true, true_and]
        exact i2
theorem p_reset {S T : xS} (h : zRel S T) : ∃ S1 T1, m_X8_reset S = some S1 ∧ m_X9_reset T = some T1 ∧ zRel S1 T1 := by
  obtain ⟨S1, T1, a1, a2, a3⟩ := p_reset1 16 2000 2000 0 S T h (by omega) (by omega) (by omega) (by omega)
  have hn := a3.2.2.2.1.1
  obtain ⟨S2, T2, b1, b2, b3⟩ := p_reset2 (S1 50 0).toNat 2000 2000 0 S1 T1 a3 (by omega) (by omega) (by omega) (by omega) (by omega)
  refine ⟨S2, T2, ?_, ?_, b3⟩
  · unfold m_X8_reset m_X5_restart m_X0_restart
    rw [a1, xbs, xbs, b1, xbs]
    rfl
  · unfold m_X9_reset
    rw [a2, xbs, b2, xbs]
