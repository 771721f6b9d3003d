/-! routing: the rounds -/
theorem zUs.mono {S T : xS} {B B1 H H1 : Int} (h : zUs S T B H) (hB : B ≤ B1) (hH : H ≤ H1) : zUs S T B1 H1 := fun w w0 w1 => by
  have := h w w0 w1
  omega
theorem p_nets {H : Int} (hH : 0 ≤ H ∧ H ≤ 300) : ∀ (d n m : Nat) (p : Int) (S T : xS), zNr S T p H → 0 ≤ p → p + d = 14 → d < n → d < m →
    ∃ S1 T1, zfR S S1 ∧ zfU T T1 ∧ zQ S1 ∧ ((m_X4_routeAll_L26 n p S = some (.inl S1) ∧ m_X9_round_L67 m p T = some (.inl T1) ∧ zNr S1 T1 14 H) ∨ (m_X4_routeAll_L26 n p S = some (.inr (0, S1)) ∧ m_X9_round_L67 m p T = some (.inr (-3, T1)))) := by
  intro d
  induction d with
  | zero =>
    intro n m p S T h h0 h1 l1 l2
    obtain ⟨n, rfl⟩ : ∃ j, n = j + 1 := ⟨n - 1, by omega⟩
    obtain ⟨m, rfl⟩ : ∃ j, m = j + 1 := ⟨m - 1, by omega⟩
    obtain rfl : p = 14 := by omega
    refine ⟨S, T, zfR.rf _, zfU.rf _, h.2.2.1, Or.inl ⟨?_, ?_, h⟩⟩
    · unfold m_X4_routeAll_L26
      simp (disch := omega) only [xr, xck_t, xck_T, if_pos, if_neg, if_true, if_false, xbs, or_true, true_or, and_true, true_and]
    · unfold m_X9_round_L67
      simp (disch := omega) only [xr, xck_t, xck_T, if_pos, if_neg, if_true, if_false, xbs, or_true, true_or, and_true, true_and]
  | succ d ih =>
    intro n m p S T h h0 h1 l1 l2
    obtain ⟨n, rfl⟩ : ∃ j, n = j + 1 := ⟨n - 1, by omega⟩
    obtain ⟨m, rfl⟩ : ∃ j, m = j + 1 := ⟨m - 1, by omega⟩
    obtain ⟨hA, hF, hQ, hP, hS, hU⟩ := id h
    have hp : 0 ≤ p ∧ p < 14 := by omega
    have z1 := zcn_nn (S 8) p (k := 34) (by omega)
    have z2 := zcap (S 8) hp.1 (k := 34) (by omega) (by omega)
    have z3 := zbs_le (S 8) p
    have enf := p_sinksOf hP.2.1 hp
    obtain ⟨r, r1, r2⟩ := p_hasSinks hP.hF hp
    rcases r2 with ⟨rfl, r2⟩ | ⟨rfl, r2⟩
    · obtain ⟨S1, T1, i1, i2, i3, i4⟩ := ih n m (p + 1) S T ⟨hA, hF, hQ, hP, hS, hU.mono (by omega) (Int.le_refl _)⟩ (by omega) (by omega) (by omega) (by omega)
      have ex : m_X4_routeAll_L26 (n + 1) p S = m_X4_routeAll_L26 n (p + 1) S := by
        conv => lhs; unfold m_X4_routeAll_L26
        rw [enf]
        simp (disch := omega) only [xr, xck_t, xck_T, if_pos, if_neg, if_true, if_false, xbs, or_true, true_or, and_true, true_and]
      have em : m_X9_round_L67 (m + 1) p T = m_X9_round_L67 m (p + 1) T := by
        conv => lhs; unfold m_X9_round_L67
        rw [r1]
        simp (disch := omega) only [xr, xck_t, xck_T, if_pos, if_neg, if_true, if_false, xbs, or_true, true_or, and_true, true_and]
      rw [ex, em]
      exact ⟨S1, T1, i1, i2, i3, i4⟩
    · obtain ⟨r, S1, T1, a1, a2, a3, a4, a5, a6⟩ := p_net h hp r2 ⟨by omega, by omega⟩ hH
      rcases a6 with rfl | ⟨rfl, a6⟩
      · refine ⟨S1, T1, a3, a4, a5, Or.inr ⟨?_, ?_⟩⟩
        · unfold m_X4_routeAll_L26
          rw [enf]
          simp (disch := omega) only [xr, xck_t, xck_T, if_pos, if_neg, if_true, if_false, xbs, or_true, true_or, and_true, true_and, a1]
        · unfold m_X9_round_L67
          rw [r1]
          simp (disch := omega) only [xr, xck_t, xck_T, if_pos, if_neg, if_true, if_false, xbs, or_true, true_or, and_true, true_and, a2]
      · obtain ⟨S2, T2, i1, i2, i3, i4⟩ := ih n m (p + 1) S1 T1 a6 (by omega) (by omega) (by omega) (by omega)
        have ex : m_X4_routeAll_L26 (n + 1) p S = m_X4_routeAll_L26 n (p + 1) S1 := by
          conv => lhs; unfold m_X4_routeAll_L26
          rw [enf]
          simp (disch := omega) only [xr, xck_t, xck_T, if_pos, if_neg, if_true, if_false, xbs, or_true, true_or, and_true, true_and, a1]
        have em : m_X9_round_L67 (m + 1) p T = m_X9_round_L67 m (p + 1) T1 := by
          conv => lhs; unfold m_X9_round_L67
          rw [r1]
          simp (disch := omega) only [xr, xck_t, xck_T, if_pos, if_neg, if_true, if_false, xbs, or_true, true_or, and_true, true_and, a2]
        rw [ex, em]
        exact ⟨S2, T2, a3.tr i1, a4.tr i2, i3, i4⟩
/-- history grows alike -/
theorem p_grow {B H : Int} (hB : 0 ≤ B ∧ B ≤ 14) (hH : 0 ≤ H ∧ H ≤ 300) : ∀ (d n m : Nat) (v g : Int) (S T : xS), (∀ w, 0 ≤ w → w < 148 → (S 17 w = T 15 w ∧ 0 ≤ S 17 w ∧ S 17 w ≤ B) ∧ S 18 w = T 16 w ∧ 0 ≤ S 18 w ∧ S 18 w ≤ H + 14) → (∀ w, v ≤ w → w < 148 → S 18 w ≤ H) → 0 ≤ v → v + d = 148 → d < n → d < m → (g = 0 ∨ g = 1) →
    ∃ g1 S1 T1, m_X4_growHistory_L4 n g v S = some (g1, S1) ∧ m_X9_round_L102 m (1 - g) v T = some (1 - g1, T1) ∧ (g1 = 0 ∨ g1 = 1) ∧ (∀ q, q ≠ 18 → S1 q = S q) ∧ (∀ q, q ≠ 16 → T1 q = T q) ∧ (∀ w, 0 ≤ w → w < 148 → S1 18 w = T1 16 w ∧ 0 ≤ S1 18 w ∧ S1 18 w ≤ H + 14) := by
  intro d
  induction d with
  | zero =>
    intro n m v g S T h hv h0 h1 l1 l2 hg
    obtain ⟨n, rfl⟩ : ∃ j, n = j + 1 := ⟨n - 1, by omega⟩
    obtain ⟨m, rfl⟩ : ∃ j, m = j + 1 := ⟨m - 1, by omega⟩
    refine ⟨g, S, T, ?_, ?_, hg, fun _ _ => rfl, fun _ _ => rfl, fun w w0 w1 => (h w w0 w1).2⟩
    · unfold m_X4_growHistory_L4
      simp (disch := omega) only [xr, xck_t, xck_T, if_pos, if_neg, if_true, if_false, xbs, or_true, true_or, and_true, true_and]
    · unfold m_X9_round_L102
      simp (disch := omega) only [xr, xck_t, xck_T, if_pos, if_neg, if_true, if_false, xbs, or_true, true_or, and_true, true_and]
  | succ d ih =>
    intro n m v g S T h hv h0 h1 l1 l2 hg
    obtain ⟨n, rfl⟩ : ∃ j, n = j + 1 := ⟨n - 1, by omega⟩
    obtain ⟨m, rfl⟩ : ∃ j, m = j + 1 := ⟨m - 1, by omega⟩
    obtain ⟨⟨u1, u2, u3⟩, u4, u5, u6⟩ := h v h0 (by omega)
    have u7 := hv v (Int.le_refl _) (by omega)
    by_cases c : S 17 v ≤ 1
    · obtain ⟨g1, S1, T1, i1, i2, i3⟩ := ih n m (v + 1) g S T h (fun w w0 w1 => hv w (by omega) w1) (by omega) (by omega) (by omega) (by omega) hg
      refine ⟨g1, S1, T1, ?_, ?_, i3⟩
      · unfold m_X4_growHistory_L4
        simp (disch := omega) only [xr, xck_t, xck_T, if_pos, if_neg, if_true, if_false, xbs, or_true, true_or, and_true, true_and]
        exact i1
      · unfold m_X9_round_L102
        simp (disch := omega) only [xr, xck_t, xck_T, if_pos, if_neg, if_true, if_false, xbs, or_true, true_or, and_true, true_and]
        exact i2
    · obtain ⟨g1, S1, T1, i1, i2, i3, i4, i5, i6⟩ := ih n m (v + 1) 1 (xup S 18 v (S 18 v + (S 17 v - 1))) (xup T 16 v (T 16 v + (T 15 v - 1))) (fun w w0 w1 => by
          rw [xup_q _ _ _ (by decide : (17 : Nat) ≠ 18), xup_q _ _ _ (by decide : (15 : Nat) ≠ 16)]
          obtain ⟨y1, y2, y3, y4⟩ := h w w0 w1
          by_cases q : w = v
          · rw [q, xup_s, xup_s]
            refine ⟨⟨u1, u2, u3⟩, by omega, by omega, by omega⟩
          · rw [xup_i _ _ _ q, xup_i _ _ _ q]
            exact ⟨y1, y2, y3, y4⟩) (fun w w0 w1 => by
          rw [xup_i _ _ _ (by omega)]
          exact hv w (by omega) w1) (by omega) (by omega) (by omega) (by omega) (Or.inr rfl)
      refine ⟨g1, S1, T1, ?_, ?_, i3, fun q hq => by rw [i4 q hq, xup_q _ _ _ hq], fun q hq => by rw [i5 q hq, xup_q _ _ _ hq], i6⟩
      · unfold m_X4_growHistory_L4
        simp (disch := omega) only [xr, xck_t, xck_T, if_pos, if_neg, if_true, if_false, xbs, or_true, true_or, and_true, true_and]
        exact i1
      · unfold m_X9_round_L102
        simp (disch := omega) only [xr, xck_t, xck_T, if_pos, if_neg, if_true, if_false, xbs, or_true, true_or, and_true, true_and]
        exact i2
theorem p_z15 : ∀ (d n : Nat) (v : Int) (T : xS), 0 ≤ v → v + d = 148 → d < n → ∃ T1, m_X9_round_L2 n v T = some T1 ∧ (∀ q, q ≠ 15 → T1 q = T q) ∧ (∀ w, w < v → T1 15 w = T 15 w) ∧ (∀ w, v ≤ w → w < 148 → T1 15 w = 0) := by
  intro d
  induction d with
  | zero =>
    intro n v T h0 h1 h2
    obtain ⟨n, rfl⟩ : ∃ j, n = j + 1 := ⟨n - 1, by omega⟩
    refine ⟨T, ?_, fun _ _ => rfl, fun _ _ => rfl, fun w w0 w1 => by omega⟩
    unfold m_X9_round_L2
    simp (disch := omega) only [xr, xck_t, xck_T, if_pos, if_neg, if_true, if_false, xbs, or_true, true_or, and_true, true_and]
  | succ d ih =>
    intro n v T h0 h1 h2
    obtain ⟨n, rfl⟩ : ∃ j, n = j + 1 := ⟨n - 1, by omega⟩
    obtain ⟨T1, i1, i2, i3, i4⟩ := ih n (v + 1) (xup T 15 v 0) (by omega) (by omega) (by omega)
    refine ⟨T1, ?_, fun q hq => by rw [i2 q hq, xup_q _ _ _ hq], fun w hw => by rw [i3 w (by omega), xup_i _ _ _ (by omega)], fun w w0 w1 => ?_⟩
    · unfold m_X9_round_L2
      simp (disch := omega) only [xr, xck_t, xck_T, if_pos, if_neg, if_true, if_false, xbs, or_true, true_or, and_true, true_and]
      exact i1
    · by_cases q : w = v
      · rw [i3 w (by omega), q, xup_s]
      · exact i4 w (by omega) w1
theorem p_z19 : ∀ (d n : Nat) (v : Int) (T : xS), 0 ≤ v → v + d = 48 → d < n → ∃ T1, m_X9_round_L24 n v T = some T1 ∧ (∀ q, q ≠ 19 → T1 q = T q) ∧ (∀ w, w < v → T1 19 w = T 19 w) ∧ (∀ w, v ≤ w → w < 48 → T1 19 w = 0) := by
  intro d
  induction d with
  | zero =>
    intro n v T h0 h1 h2
    obtain ⟨n, rfl⟩ : ∃ j, n = j + 1 := ⟨n - 1, by omega⟩
    refine ⟨T, ?_, fun _ _ => rfl, fun _ _ => rfl, fun w w0 w1 => by omega⟩
    unfold m_X9_round_L24
    simp (disch := omega) only [xr, xck_t, xck_T, if_pos, if_neg, if_true, if_false, xbs, or_true, true_or, and_true, true_and]
  | succ d ih =>
    intro n v T h0 h1 h2
    obtain ⟨n, rfl⟩ : ∃ j, n = j + 1 := ⟨n - 1, by omega⟩
    obtain ⟨T1, i1, i2, i3, i4⟩ := ih n (v + 1) (xup T 19 v 0) (by omega) (by omega) (by omega)
    refine ⟨T1, ?_, fun q hq => by rw [i2 q hq, xup_q _ _ _ hq], fun w hw => by rw [i3 w (by omega), xup_i _ _ _ (by omega)], fun w w0 w1 => ?_⟩
    · unfold m_X9_round_L24
      simp (disch := omega) only [xr, xck_t, xck_T, if_pos, if_neg, if_true, if_false, xbs, or_true, true_or, and_true, true_and]
      exact i1
    · by_cases q : w = v
      · rw [i3 w (by omega), q, xup_s]
      · exact i4 w (by omega) w1
theorem p_z20 : ∀ (d n : Nat) (v : Int) (T : xS), 0 ≤ v → v + d = 128 → d < n → ∃ T1, m_X9_round_L45 n v T = some T1 ∧ (∀ q, q ≠ 20 → T1 q = T q) ∧ (∀ w, w < v → T1 20 w = T 20 w) ∧ (∀ w, v ≤ w → w < 128 → T1 20 w = 0) := by
  intro d
  induction d with
  | zero =>
    intro n v T h0 h1 h2
    obtain ⟨n, rfl⟩ : ∃ j, n = j + 1 := ⟨n - 1, by omega⟩
    refine ⟨T, ?_, fun _ _ => rfl, fun _ _ => rfl, fun w w0 w1 => by omega⟩
    unfold m_X9_round_L45
    simp (disch := omega) only [xr, xck_t, xck_T, if_pos, if_neg, if_true, if_false, xbs, or_true, true_or, and_true, true_and]
  | succ d ih =>
    intro n v T h0 h1 h2
    obtain ⟨n, rfl⟩ : ∃ j, n = j + 1 := ⟨n - 1, by omega⟩
    obtain ⟨T1, i1, i2, i3, i4⟩ := ih n (v + 1) (xup T 20 v 0) (by omega) (by omega) (by omega)
    refine ⟨T1, ?_, fun q hq => by rw [i2 q hq, xup_q _ _ _ hq], fun w hw => by rw [i3 w (by omega), xup_i _ _ _ (by omega)], fun w w0 w1 => ?_⟩
    · unfold m_X9_round_L45
      simp (disch := omega) only [xr, xck_t, xck_T, if_pos, if_neg, if_true, if_false, xbs, or_true, true_or, and_true, true_and]
      exact i1
    · by_cases q : w = v
      · rw [i3 w (by omega), q, xup_s]
      · exact i4 w (by omega) w1
theorem p_z16 : ∀ (d n : Nat) (v : Int) (T : xS), 0 ≤ v → v + d = 148 → d < n → ∃ T1, m_X9_build_L25 n v T = some T1 ∧ (∀ q, q ≠ 16 → T1 q = T q) ∧ (∀ w, w < v → T1 16 w = T 16 w) ∧ (∀ w, v ≤ w → w < 148 → T1 16 w = 0) := by
  intro d
  induction d with
  | zero =>
    intro n v T h0 h1 h2
    obtain ⟨n, rfl⟩ : ∃ j, n = j + 1 := ⟨n - 1, by omega⟩
    refine ⟨T, ?_, fun _ _ => rfl, fun _ _ => rfl, fun w w0 w1 => by omega⟩
    unfold m_X9_build_L25
    simp (disch := omega) only [xr, xck_t, xck_T, if_pos, if_neg, if_true, if_false, xbs, or_true, true_or, and_true, true_and]
  | succ d ih =>
    intro n v T h0 h1 h2
    obtain ⟨n, rfl⟩ : ∃ j, n = j + 1 := ⟨n - 1, by omega⟩
    obtain ⟨T1, i1, i2, i3, i4⟩ := ih n (v + 1) (xup T 16 v 0) (by omega) (by omega) (by omega)
    refine ⟨T1, ?_, fun q hq => by rw [i2 q hq, xup_q _ _ _ hq], fun w hw => by rw [i3 w (by omega), xup_i _ _ _ (by omega)], fun w w0 w1 => ?_⟩
    · unfold m_X9_build_L25
      simp (disch := omega) only [xr, xck_t, xck_T, if_pos, if_neg, if_true, if_false, xbs, or_true, true_or, and_true, true_and]
      exact i1
    · by_cases q : w = v
      · rw [i3 w (by omega), q, xup_s]
      · exact i4 w (by omega) w1
/-- before a round -/
def zRo (S T : xS) (H : Int) : Prop := zFA S ∧ zFB S ∧ zQ S ∧ zPC S T ∧ (∀ w, 0 ≤ w → w < 148 → S 18 w = T 16 w ∧ 0 ≤ S 18 w ∧ S 18 w ≤ H)
theorem p_round {S T : xS} {H : Int} (h : zRo S T H) (hH : 0 ≤ H ∧ H ≤ 300) : ∃ S1 T1, zfR S S1 ∧ zfU T T1 ∧ zQ S1 ∧ ((m_X4_routeAll S = some (0, S1) ∧ m_X9_round T = some (-3, T1)) ∨ (∃ S0 g, m_X4_routeAll S = some (1, S0) ∧ m_X4_growHistory S0 = some (g, S1) ∧ m_X9_round T = some (1 - g, T1) ∧ (g = 0 ∨ g = 1) ∧ zSwt S1 T1 ∧ zRo S1 T1 (H + 14))) := by
  obtain ⟨hA, hF, hQ, hP, hH18⟩ := id h
  obtain ⟨T1, a1, a2, a3, a4⟩ := p_z15 148 2000 0 T (by omega) (by omega) (by omega)
  obtain ⟨T2, b1, b2, b3, b4⟩ := p_z19 48 2000 0 T1 (by omega) (by omega) (by omega)
  obtain ⟨T3, c1, c2, c3, c4⟩ := p_z20 128 2000 0 T2 (by omega) (by omega) (by omega)
  have oS : ∀ q, q ≠ 17 → q ≠ 22 → q ≠ 23 → xfl (xfl (xfl S 17 148 0) 22 144 0) 23 48 0 q = S q := fun q q1 q2 q3 => by rw [xfl_q _ _ _ q3, xfl_q _ _ _ q2, xfl_q _ _ _ q1]
  have oT : ∀ q, q ≠ 15 → q ≠ 19 → q ≠ 20 → T3 q = T q := fun q q1 q2 q3 => by rw [c2 q q3, b2 q q2, a2 q q1]
  have e17 : ∀ w, 0 ≤ w → w < 148 → xfl (xfl (xfl S 17 148 0) 22 144 0) 23 48 0 17 w = 0 := fun w w0 w1 => by
    rw [xfl_q _ _ _ (by decide : (17 : Nat) ≠ 23), xfl_q _ _ _ (by decide : (17 : Nat) ≠ 22)]
    exact if_pos ⟨rfl, w0, w1⟩
  have e22 : ∀ w, 0 ≤ w → w < 144 → xfl (xfl (xfl S 17 148 0) 22 144 0) 23 48 0 22 w = 0 := fun w w0 w1 => by
    rw [xfl_q _ _ _ (by decide : (22 : Nat) ≠ 23)]
    exact if_pos ⟨rfl, w0, w1⟩
  have e23 : ∀ w, 0 ≤ w → w < 48 → xfl (xfl (xfl S 17 148 0) 22 144 0) 23 48 0 23 w = 0 := fun w w0 w1 => if_pos ⟨rfl, w0, w1⟩
  have hNr : zNr (xfl (xfl (xfl S 17 148 0) 22 144 0) 23 48 0) T3 0 H := by
    refine ⟨hA.of (oS 2 (by decide) (by decide) (by decide)) (oS 3 (by decide) (by decide) (by decide)), hF.of (oS 0 (by decide) (by decide) (by decide)) (oS 1 (by decide) (by decide) (by decide)), hQ.of (oS 25 (by decide) (by decide) (by decide)) (oS 53 (by decide) (by decide) (by decide)) (oS 54 (by decide) (by decide) (by decide)), hP.ofF (fun q hq => oS q (by omega) (by omega) (by omega)) (fun q hq => oT q (by omega) (by omega) (by omega)), ⟨fun p p0 p1 => ?_, fun c c0 c1' => ?_⟩, fun w w0 w1 => ?_⟩
    · rw [e23 p p0 p1, c2 19 (by decide), b4 p p0 p1]
      exact ⟨rfl, by omega, by omega⟩
    · rw [e22 _ (by omega) (by omega), c4 c c0 c1']
      exact ⟨rfl, by omega, by omega⟩
    · rw [e17 w w0 w1, c2 15 (by decide), b2 15 (by decide), a4 w w0 w1, oS 18 (by decide) (by decide) (by decide), oT 16 (by decide) (by decide) (by decide)]
      exact ⟨⟨rfl, by omega, by omega⟩, hH18 w w0 w1⟩
  obtain ⟨S4, T4, d1, d2, d3, d4⟩ := p_nets hH 14 2000 2000 0 _ T3 hNr (by omega) (by omega) (by omega) (by omega)
  have f1 : zfR S S4 := fun q hq => by rw [d1 q hq, oS q (by omega) (by omega) (by omega)]
  have f2 : zfU T T4 := fun q hq => by rw [d2 q hq, oT q (by omega) (by omega) (by omega)]
  rcases d4 with ⟨k1, k2, k3⟩ | ⟨k1, k2⟩
  · obtain ⟨nA, nF, nQ, nP, nS, nU⟩ := k3
    obtain ⟨g, S5, T5, g1, g2, g3, g4, g5, g6⟩ := p_grow (B := 14) (H := H) (by omega) hH 148 2000 2000 0 0 S4 T4 (fun w w0 w1 => by
        have := nU w w0 w1
        exact ⟨this.1, by omega, by omega, by omega⟩) (fun w w0 w1 => (nU w w0 w1).2.2.2) (by omega) (by omega) (by omega) (by omega) (Or.inl rfl)
    have f3 : zfR S S5 := fun q hq => by rw [g4 q (by omega), f1 q hq]
    have f4 : zfU T T5 := fun q hq => by rw [g5 q (by omega), f2 q hq]
    have hQ5 : zQ S5 := nQ.of (g4 25 (by decide)) (g4 53 (by decide)) (g4 54 (by decide))
    refine ⟨S5, T5, f3, f4, hQ5, Or.inr ⟨S4, g, ?_, ?_, ?_, g3, ?_, nA.of (g4 2 (by decide)) (g4 3 (by decide)), nF.of (g4 0 (by decide)) (g4 1 (by decide)), hQ5, nP.ofF (fun q hq => g4 q (by omega)) (fun q hq => g5 q (by omega)), g6⟩⟩
    · unfold m_X4_routeAll
      rw [k1, xbs]
    · unfold m_X4_growHistory
      rw [g1, xbs, xck_t (by omega)]
    · unfold m_X9_round
      rw [a1, xbs, b1, xbs, c1, xbs, k2, xbs]
      have g2 : m_X9_round_L102 2000 1 0 T4 = some (1 - g, T5) := g2
      simp only [g2, xbs]
    · unfold zSwt at nS ⊢
      rw [g4 23 (by decide), g4 22 (by decide), g5 19 (by decide), g5 20 (by decide)]
      exact nS
  · refine ⟨S4, T4, f1, f2, d3, Or.inl ⟨?_, ?_⟩⟩
    · unfold m_X4_routeAll
      rw [k1, xbs]
    · unfold m_X9_round
      rw [a1, xbs, b1, xbs, c1, xbs, k2, xbs]
theorem p_rounds : ∀ (d n m : Nat) (v H : Int) (S T : xS), zRo S T H → 0 ≤ H → H + 14 * d ≤ 300 → 1 ≤ v → v + d = 13 → d < n → d < m →
    ∃ S1 T1, zfR S S1 ∧ zfU T T1 ∧ zQ S1 ∧ ((m_X4_route_L10 n v S = some (.inl S1) ∧ m_X9_build_L47 m v T = some (.inl T1)) ∨ (m_X4_route_L10 n v S = some (.inr (-3, S1)) ∧ m_X9_build_L47 m v T = some (.inr (-3, T1))) ∨ (∃ r, (1 ≤ r ∧ r ≤ 12) ∧ m_X4_route_L10 n v S = some (.inr (r, S1)) ∧ m_X9_build_L47 m v T = (m_X9_makeBits T1).bind (fun x => some (.inr (r, x))) ∧ zPC S1 T1 ∧ zSwt S1 T1)) := by
  intro d
  induction d with
  | zero =>
    intro n m v H S T h hH hH2 h0 h1 l1 l2
    obtain ⟨n, rfl⟩ : ∃ j, n = j + 1 := ⟨n - 1, by omega⟩
    obtain ⟨m, rfl⟩ : ∃ j, m = j + 1 := ⟨m - 1, by omega⟩
    refine ⟨S, T, zfR.rf _, zfU.rf _, h.2.2.1, Or.inl ⟨?_, ?_⟩⟩
    · unfold m_X4_route_L10
      simp (disch := omega) only [xr, xck_t, xck_T, if_pos, if_neg, if_true, if_false, xbs, or_true, true_or, and_true, true_and]
    · unfold m_X9_build_L47
      simp (disch := omega) only [xr, xck_t, xck_T, if_pos, if_neg, if_true, if_false, xbs, or_true, true_or, and_true, true_and]
  | succ d ih =>
    intro n m v H S T h hH hH2 h0 h1 l1 l2
    obtain ⟨n, rfl⟩ : ∃ j, n = j + 1 := ⟨n - 1, by omega⟩
    obtain ⟨m, rfl⟩ : ∃ j, m = j + 1 := ⟨m - 1, by omega⟩
    obtain ⟨S1, T1, a1, a2, a3, a4⟩ := p_round h ⟨hH, by omega⟩
    rcases a4 with ⟨b1, b2⟩ | ⟨S0, g, b1, b2, b3, b4, b5, b6⟩
    · refine ⟨S1, T1, a1, a2, a3, Or.inr (Or.inl ⟨?_, ?_⟩)⟩
      · unfold m_X4_route_L10
        rw [b1]
        simp (disch := omega) only [xr, xck_t, xck_T, if_pos, if_neg, if_true, if_false, xbs, or_true, true_or, and_true, true_and]
      · unfold m_X9_build_L47
        rw [b2]
        simp (disch := omega) only [xr, xck_t, xck_T, if_pos, if_neg, if_true, if_false, xbs, or_true, true_or, and_true, true_and]
    · rcases b4 with rfl | rfl
      · have b3 : m_X9_round T = some (1, T1) := b3
        refine ⟨S1, T1, a1, a2, a3, Or.inr (Or.inr ⟨v, by omega, ?_, ?_, b6.2.2.2.1, b5⟩)⟩
        · unfold m_X4_route_L10
          rw [b1]
          simp (disch := omega) only [xr, xck_t, xck_T, if_pos, if_neg, if_true, if_false, xbs, or_true, true_or, and_true, true_and, b2]
        · unfold m_X9_build_L47
          rw [b3]
          simp (disch := omega) only [xr, xck_t, xck_T, if_pos, if_neg, if_true, if_false, xbs, or_true, true_or, and_true, true_and]
      · have b3 : m_X9_round T = some (0, T1) := b3
        obtain ⟨S2, T2, i1, i2, i3, i4⟩ := ih n m (v + 1) (H + 14) S1 T1 b6 (by omega) (by omega) (by omega) (by omega) (by omega) (by omega)
        have ex : m_X4_route_L10 (n + 1) v S = m_X4_route_L10 n (v + 1) S1 := by
          conv => lhs; unfold m_X4_route_L10
          rw [b1]
          simp (disch := omega) only [xr, xck_t, xck_T, if_pos, if_neg, if_true, if_false, xbs, or_true, true_or, and_true, true_and, b2]
        have em : m_X9_build_L47 (m + 1) v T = m_X9_build_L47 m (v + 1) T1 := by
          conv => lhs; unfold m_X9_build_L47
          rw [b3]
          simp (disch := omega) only [xr, xck_t, xck_T, if_pos, if_neg, if_true, if_false, xbs, or_true, true_or, and_true, true_and]
        rw [ex, em]
        exact ⟨S2, T2, a1.tr i1, a2.tr i2, i3, i4⟩
