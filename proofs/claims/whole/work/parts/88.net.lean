/-! routing: one net -/
def zfn (S S1 : xS) : Prop := ∀ q, q < 19 ∨ (25 < q ∧ q < 53) ∨ 54 < q → S1 q = S q
def zfu (T T1 : xS) : Prop := ∀ q, q < 17 ∨ 20 < q → T1 q = T q
theorem zfn.tr {A B C : xS} (a : zfn A B) (b : zfn B C) : zfn A C := fun q h => by rw [b q h, a q h]
theorem zfu.tr {A B C : xS} (a : zfu A B) (b : zfu B C) : zfu A C := fun q h => by rw [b q h, a q h]
theorem zfn.rf (A : xS) : zfn A A := fun _ _ => rfl
theorem zfu.rf (A : xS) : zfu A A := fun _ _ => rfl
theorem zfn.pc {S T S1 T1 : xS} (h : zPC S T) (a : zfn S S1) (b : zfu T T1) : zPC S1 T1 := h.ofF (fun q hq => a q (by omega)) (fun q hq => b q (by omega))
theorem zFB.of {S S1 : xS} (h : zFB S) (a : S1 0 = S 0) (b : S1 1 = S 1) : zFB S1 := by
  unfold zFB at h ⊢
  rw [a, b]
  exact h
theorem zFA.of {S S1 : xS} (h : zFA S) (a : S1 2 = S 2) (b : S1 3 = S 3) : zFA S1 := by
  unfold zFA at h ⊢
  rw [a, b]
  exact h
theorem zQ.of {S S1 : xS} (h : zQ S) (a : S1 25 = S 25) (b : S1 53 = S 53) (c : S1 54 = S 54) : zQ S1 := by
  unfold zQ at h ⊢
  rw [a, b, c]
  exact h
theorem zMd.tr {tr tr1 pr M : Int → Int} (h : zMd tr pr M) (e : ∀ w, 0 ≤ w → w < 148 → tr1 w = tr w) : zMd tr1 pr M :=
  ⟨h.1, fun w w0 w1 wt => h.2.1 w w0 w1 (by rw [← e w w0 w1]; exact wt), fun w w0 w1 wt wk => h.2.2.1 w w0 w1 (by rw [← e w w0 w1]; exact wt) wk, h.2.2.2⟩
theorem p_out30 {k : Int} (hk : 30 ≤ k ∧ k < 34) : zisch (36 * (k - 30) + 30) := by
  unfold zisch
  omega
/-- behind the way back all stands as before, with a larger tree -/
theorem p_grown {S T S1 T1 S2 T2 S3 T3 : xS} (h : zRt S T) (hB : zB (-1) S1) (hQ : zQ S1) (f1 : zfe S S1) (f2 : ∀ q, q ≠ 23 → S2 q = S1 q) (f3 : ∀ q, q ≠ 21 → q ≠ 22 → S3 q = S2 q) (g1 : ∀ q, q ≠ 18 → T1 q = T q) (g2 : ∀ q, q ≠ 19 → T2 q = T1 q) (g3 : ∀ q, q ≠ 17 → q ≠ 20 → T3 q = T2 q) (ht : ∀ u, 0 ≤ u → u < 148 → S3 21 u = T3 17 u ∧ (T3 17 u = 0 ∨ T3 17 u = 1) ∧ (T2 17 u = 1 → T3 17 u = 1)) (hs : zSwt S3 T3) : zRt S3 T3 ∧ zfn S S3 ∧ zfu T T3 := by
  obtain ⟨hB0, hQ0, hF, hP, hS, hx⟩ := h
  have o : ∀ q, q ≠ 21 → q ≠ 22 → q ≠ 23 → S3 q = S1 q := fun q q1 q2 q3 => by rw [f3 q q1 q2, f2 q q3]
  have oS : zfn S S3 := fun q hq => by rw [o q (by omega) (by omega) (by omega), f1 q (by omega) (by omega) (by omega) (by omega) (by omega)]
  have oT : zfu T T3 := fun q hq => by rw [g3 q (by omega) (by omega), g2 q (by omega), g1 q (by omega)]
  obtain ⟨c1, c2, c3, c4, c5, c6, c7⟩ := hB
  have e19 : S3 19 = S 19 := by rw [o 19 (by decide) (by decide) (by decide), f1 19 (by decide) (by decide) (by decide) (by decide) (by decide)]
  have e21 : S1 21 = S 21 := f1 21 (by decide) (by decide) (by decide) (by decide) (by decide)
  have e17 : T2 17 = T 17 := by rw [g2 17 (by decide), g1 17 (by decide)]
  refine ⟨⟨⟨c1.of (o 2 (by decide) (by decide) (by decide)) (o 3 (by decide) (by decide) (by decide)), c2.of (o 24 (by decide) (by decide) (by decide)) (o 25 (by decide) (by decide) (by decide)) (o 53 (by decide) (by decide) (by decide)) (o 54 (by decide) (by decide) (by decide)), ?_, ?_, fun w w0 w1 => ?_, fun w w0 w1 wt wk => ?_, ?_⟩, hQ.of (o 25 (by decide) (by decide) (by decide)) (o 53 (by decide) (by decide) (by decide)) (o 54 (by decide) (by decide) (by decide)), hF.of (oS 0 (by decide)) (oS 1 (by decide)), zfn.pc hP oS oT, hs, fun w w0 w1 => ?_⟩, oS, oT⟩
  · rw [o 20 (by decide) (by decide) (by decide)]
    exact c3
  · rw [o 19 (by decide) (by decide) (by decide)]
    exact c4
  · obtain ⟨y1, y2, y3⟩ := ht w w0 w1
    rw [y1]
    exact y2
  · rw [o 20 (by decide) (by decide) (by decide)] at wk ⊢
    rw [o 19 (by decide) (by decide) (by decide)]
    refine c6 w w0 w1 (fun q => wt ?_) wk
    obtain ⟨y1, y2, y3⟩ := ht w w0 w1
    rw [y1]
    refine y3 ?_
    rw [e17, ← (hx w w0 w1).1, ← e21]
    exact q
  · rw [o 20 (by decide) (by decide) (by decide), o 19 (by decide) (by decide) (by decide), o 25 (by decide) (by decide) (by decide)]
    exact c7
  · rw [(ht w w0 w1).1, e19, oT 15 (by decide), oT 16 (by decide)]
    exact ⟨rfl, (hx w w0 w1).2⟩
theorem p_reach {S T : xS} (h : zRt S T) {p k : Int} (hp : 0 ≤ p ∧ p < 14) (hk : 0 ≤ k ∧ k < 34) (e : S 8 k = p) : ∃ S1 a S2, m_X4_spread S = some S1 ∧ zfn S S1 ∧ m_X4_endOfWay k S1 = some (a, S2) ∧ (-1 ≤ a ∧ a < 148) ∧ (∀ q, q ≠ 23 → S2 q = S1 q) ∧ zQ S2 ∧ zDr 1048576 (S2 20) ∧
    (((a = -1 ∨ 1048576 ≤ S2 20 a) ∧ ∃ T2, m_X9_reach k T = some (0, T2) ∧ zfu T T2) ∨ ((0 ≤ a ∧ S2 20 a < 1048576) ∧ ∃ S3 T3, m_X4_followBack a S2 = some S3 ∧ m_X9_reach k T = some (1, T3) ∧ zRt S3 T3 ∧ zfn S S3 ∧ zfu T T3)) := by
  obtain ⟨hB0, hQ0, hF, hP, hS, hx⟩ := id h
  have hpr := hB0.2.2.2.1
  have ht01 : ∀ w, 0 ≤ w → w < 148 → (T 17 w = 0 ∨ T 17 w = 1) ∧ S 19 w = 1 + 3 * T 15 w + T 16 w := fun w w0 w1 => by
    have a := hB0.2.2.2.2.1 w w0 w1
    obtain ⟨b, c⟩ := hx w w0 w1
    rw [b] at a
    exact ⟨a, c⟩
  obtain ⟨T1, t1, t2, t3⟩ := p_relax (T := T) (S 19) hpr ht01
  have hM := t3.tr (tr1 := S 21) (fun w w0 w1 => (hx w w0 w1).1)
  obtain ⟨S1, s1, s2, s3, s4, s5, s6, s7⟩ := p_spread hB0 hM
  have oS1 : zfn S S1 := fun q hq => s3 q (by omega) (by omega) (by omega) (by omega) (by omega)
  have oT1 : zfu T T1 := fun q hq => t2 q (by omega)
  have hF1 : zFB S1 := hF.of (oS1 0 (by decide)) (oS1 1 (by decide))
  have hP1 := zfn.pc hP oS1 oT1
  have hr1 := s2.2.2.1
  have e19 : S1 19 = S 19 := s3 19 (by decide) (by decide) (by decide) (by decide) (by decide)
  have e21 : S1 21 = S 21 := s3 21 (by decide) (by decide) (by decide) (by decide) (by decide)
  have hS1 : zSwt S1 T1 := by
    unfold zSwt at hS ⊢
    rw [s3 23 (by decide) (by decide) (by decide) (by decide) (by decide), s3 22 (by decide) (by decide) (by decide) (by decide) (by decide), t2 19 (by decide), t2 20 (by decide)]
    exact hS
  have h17 : ∀ j : Int, 0 ≤ j → j < ((148 : Nat) : Int) → 0 ≤ (fun u => 1 - T 17 u) j ∧ (fun u => 1 - T 17 u) j ≤ 1 := fun j j0 j1 => by
    have := (ht01 j j0 (by omega)).1
    simp only
    omega
  have hN := (zsum_le (fun u => 1 - T 17 u) 148 h17).2.1
  have foll : ∀ (w : Int) (S2 T2 : xS), (0 ≤ w ∧ w < 148) → T1 18 w < 1000000 → (∀ q, q ≠ 23 → S2 q = S1 q) → (∀ q, q ≠ 19 → T2 q = T1 q) → zSwt S2 T2 → ∃ S3 T3, m_X4_followBack w S2 = some S3 ∧ m_X9_follow w T2 = some T3 ∧ zRt S3 T3 ∧ zfn S S3 ∧ zfu T T3 := by
    intro w S2 T2 hw hf o2 u2 hs2
    have e17 : T2 17 = T 17 := by rw [u2 17 (by decide), t2 17 (by decide)]
    obtain ⟨S3, T3, a1, a2, a3, a4, a5, a6⟩ := p_follow (pr := S 19) (tr := T 17) (D := S1 20) (M := T1 18) hpr t3 hr1 s7 148 2000 2000 w 0 S2 T2 (hF1.of (o2 0 (by decide)) (o2 1 (by decide))) (o2 20 (by decide)) (u2 18 (by decide)) (fun u u0 u1 => by
        rw [o2 19 (by decide), e19, u2 15 (by decide), t2 15 (by decide), u2 16 (by decide), t2 16 (by decide), o2 21 (by decide), e21, e17]
        exact ⟨rfl, (hx u u0 u1).2, (hx u u0 u1).1, (ht01 u u0 u1).1, id⟩) hs2 hw hf (by omega) (by omega) (by rw [e17]; exact hN) (by rw [e17]; omega) (by omega) (by omega)
    obtain ⟨b1, b2, b3⟩ := p_grown h s2 s4 s3 o2 a3 t2 u2 a4 a5 a6
    refine ⟨S3, T3, ?_, ?_, b1, b2, b3⟩
    · unfold m_X4_followBack
      rw [a1, xbs]
    · unfold m_X9_follow
      rw [a2, xbs]
  by_cases c : k < 30
  · obtain ⟨k1, k2⟩ := hP1.sk hp.1 hk (by rw [oS1 8 (by decide)]; exact e)
    have hso := p_siteOfSink (S := S1) hk
    have k2 := k2 c
    generalize zsk S1 k = t at *
    have ht16 : 0 ≤ t ∧ t < 16 := by omega
    have hk3 : 0 ≤ k % 3 ∧ k % 3 < 3 := by omega
    obtain ⟨a, f, g, S2, p1, p2, p3, p4, p5⟩ := p_pins (T := T1) ht16 hk3 9 2000 2000 1 (-1) (-1) 0 S1 hF1 hr1 s7 (Or.inl ⟨rfl, Or.inl rfl⟩) (by omega) (by omega) (by omega) (by omega)
    have ar : -1 ≤ a ∧ a < 148 := by
      unfold zPn at p3
      omega
    have ee : m_X4_endOfWay k S1 = some (a, S2) := by
      unfold m_X4_endOfWay m_X4_switchPin
      simp (disch := omega) only [xr, xck_t, xck_T, if_pos, if_neg, if_true, if_false, xbs, or_true, true_or, and_true, true_and, hso, p1]
    have er : ∀ r, (if 0 ≤ f then xck (0 ≤ 3 * t + k % 3 ∧ 3 * t + k % 3 < 48) ((m_X9_follow f (xup T1 19 (3 * t + k % 3) g)).bind (fun r28 => some ((1 : Int), r28))) else some (0, T1)) = r → m_X9_reach k T = r := fun r hr => by
      have fr : -1 ≤ f ∧ f < 148 := by
        unfold zPn at p3
        omega
      unfold m_X9_reach
      rw [t1, xbs, k2]
      simp (disch := omega) only [xr, xck_t, xck_T, if_pos, if_neg, if_true, if_false, xbs, or_true, true_or, and_true, true_and, p2]
      rw [← hr]
      by_cases q : 0 ≤ f
      · rw [if_pos q, if_pos q]
        simp (disch := omega) only [xr, xck_t, xck_T, if_pos, if_neg, if_true, if_false, xbs, or_true, true_or, and_true, true_and]
      · rw [if_neg q, if_neg q]
    refine ⟨S1, a, S2, s1, oS1, ee, ar, p4, s4.of (p4 25 (by decide)) (p4 53 (by decide)) (p4 54 (by decide)), by rw [p4 20 (by decide)]; exact hr1, ?_⟩
    rcases p3 with ⟨q1, q2⟩ | ⟨q1, q2, q3, q4, q5, q6⟩
    · left
      refine ⟨?_, T1, er _ (if_neg (by omega)), oT1⟩
      rcases q2 with q2 | q2
      · exact Or.inl q2
      · exact Or.inr (by omega)
    · right
      have ef := s7 f q1.1 q1.2
      obtain ⟨S3, T3, b1, b2, b3, b4, b5⟩ := foll f S2 (xup T1 19 (3 * t + k % 3) g) q1 q3 p4 (fun q hq => xup_q _ _ _ hq) (by
        refine ⟨fun j j0 j1 => ?_, fun j j0 j1 => ?_⟩
        · by_cases y : j = 3 * t + k % 3
          · rw [y, xup_s]
            exact ⟨q4, by omega, by omega⟩
          · rw [xup_i _ _ _ y, p5 j y]
            exact hS1.1 j j0 j1
        · rw [p4 22 (by decide), xup_q _ _ _ (by decide : (20 : Nat) ≠ 19)]
          exact hS1.2 j j0 j1)
      refine ⟨⟨by omega, by rw [p4 20 (by decide), q2]; omega⟩, S3, T3, by rw [q2]; exact b1, ?_, b3, b4, b5⟩
      refine er _ ?_
      rw [if_pos q1.1, b2, xbs, xck_t (by omega)]
  · have ow := p_outW (k - 30)
    have hw := zisch_in (p_out30 (k := k) ⟨by omega, hk.2⟩)
    generalize 36 * (k - 30) + 30 = w at *
    have ew := s7 w hw.1 hw.2
    have ee : m_X4_endOfWay k S1 = some (w, S1) := by
      unfold m_X4_endOfWay
      simp (disch := omega) only [xr, xck_t, xck_T, if_pos, if_neg, if_true, if_false, xbs, or_true, true_or, and_true, true_and, ow.1]
    refine ⟨S1, w, S1, s1, oS1, ee, by omega, fun _ _ => rfl, s4, hr1, ?_⟩
    have tr18 : xr (T1 18 w) := by
      have := hr1 w hw.1 hw.2
      exact ⟨by omega, by omega⟩
    by_cases fin : T1 18 w < 1000000
    · right
      obtain ⟨S3, T3, b1, b2, b3, b4, b5⟩ := foll w S1 T1 hw fin (fun _ _ => rfl) (fun _ _ => rfl) hS1
      refine ⟨⟨hw.1, by omega⟩, S3, T3, b1, ?_, b3, b4, b5⟩
      unfold m_X9_reach
      rw [t1, xbs]
      simp (disch := omega) only [xr, xck_t, xck_T, if_pos, if_neg, if_true, if_false, xbs, or_true, true_or, and_true, true_and, ow.2, b2]
    · left
      refine ⟨Or.inr (by omega), T1, ?_, oT1⟩
      unfold m_X9_reach
      rw [t1, xbs]
      simp (disch := omega) only [xr, xck_t, xck_T, if_pos, if_neg, if_true, if_false, xbs, or_true, true_or, and_true, true_and, ow.2]
theorem p_netL {p : Int} (hp : 0 ≤ p ∧ p < 14) : ∀ (d n m : Nat) (k : Int) (S T : xS), zRt S T → 0 ≤ k → k + d = 34 → d < n → d < m →
    ∃ S1 T1, zfn S S1 ∧ zfu T T1 ∧ zQ S1 ∧ ((m_X4_routeNet_L11 p n (zcn (S 8) p k) S = some (.inl S1) ∧ m_X9_routeNet_L65 p m k T = some (.inl T1) ∧ zRt S1 T1) ∨ (m_X4_routeNet_L11 p n (zcn (S 8) p k) S = some (.inr (0, S1)) ∧ m_X9_routeNet_L65 p m k T = some (.inr (0, T1)))) := by
  intro d
  induction d with
  | zero =>
    intro n m k S T h h0 h1 l1 l2
    obtain ⟨n, rfl⟩ : ∃ j, n = j + 1 := ⟨n - 1, by omega⟩
    obtain ⟨m, rfl⟩ : ∃ j, m = j + 1 := ⟨m - 1, by omega⟩
    obtain rfl : k = 34 := by omega
    have z1 := zcn_nn (S 8) p (k := 34) (by omega)
    have z2 := zcap (S 8) hp.1 (k := 34) (by omega) (by omega)
    have z3 := zbs_le (S 8) p
    refine ⟨S, T, zfn.rf _, zfu.rf _, h.2.1, Or.inl ⟨?_, ?_, h⟩⟩
    · unfold m_X4_routeNet_L11
      rw [p_sinksOf h.2.2.2.1.2.1 hp]
      simp (disch := omega) only [xr, xck_t, xck_T, if_pos, if_neg, if_true, if_false, xbs, or_true, true_or, and_true, true_and]
    · unfold m_X9_routeNet_L65
      simp (disch := omega) only [xr, xck_t, xck_T, if_pos, if_neg, if_true, if_false, xbs, or_true, true_or, and_true, true_and]
  | succ d ih =>
    intro n m k S T h h0 h1 l1 l2
    obtain ⟨m, rfl⟩ : ∃ j, m = j + 1 := ⟨m - 1, by omega⟩
    have hk := h.2.2.2.1.hF k h0 (by omega)
    have zs := zcn_s (S 8) p h0
    by_cases c : S 8 k = p
    · obtain ⟨n, rfl⟩ : ∃ j, n = j + 1 := ⟨n - 1, by omega⟩
      rw [zi_t c] at zs
      have z1 := zcn_nn (S 8) p h0
      have z2 := zcap (S 8) hp.1 (k := 34) (by omega) (by omega)
      have z3 := zbs_le (S 8) p
      have z4 := zcn_hit (S 8) p (k := k) (m := 34) h0 (by omega) c
      obtain ⟨S1, a, S2, s1, s2, s3, s4, s5, s6, s7, s8⟩ := p_reach h hp (k := k) ⟨h0, by omega⟩ c
      have hN := (h.2.2.2.1.2.1).of (s2 8 (by decide)) (s2 13 (by decide)) (s2 14 (by decide))
      have esk := p_sinkAt hN hp (k := k) ⟨h0, by omega⟩ (by rw [s2 8 (by decide)]; exact c)
      rw [s2 8 (by decide)] at esk
      have enf := p_sinksOf h.2.2.2.1.2.1 hp
      rcases s8 with ⟨q, T2, r1, r2⟩ | ⟨q, S3, T3, r1, r2, r3, r4, r5⟩
      · refine ⟨S2, T2, fun q hq => by rw [s5 q (by omega), s2 q hq], r2, s6, Or.inr ⟨?_, ?_⟩⟩
        · unfold m_X4_routeNet_L11
          rw [enf]
          simp (disch := omega) only [xr, xck_t, xck_T, if_pos, if_neg, if_true, if_false, xbs, or_true, true_or, and_true, true_and, s1, esk, s3]
          rcases q with q | q
          · simp (disch := omega) only [xr, xck_t, xck_T, if_pos, if_neg, if_true, if_false, xbs, or_true, true_or, and_true, true_and]
          · have := s7 a
            by_cases q2 : a = -1
            · simp (disch := omega) only [xr, xck_t, xck_T, if_pos, if_neg, if_true, if_false, xbs, or_true, true_or, and_true, true_and]
            · have := s7 a (by omega) s4.2
              simp (disch := omega) only [xr, xck_t, xck_T, if_pos, if_neg, if_true, if_false, xbs, or_true, true_or, and_true, true_and]
        · unfold m_X9_routeNet_L65
          rw [hk.1]
          simp (disch := omega) only [xr, xck_t, xck_T, if_pos, if_neg, if_true, if_false, xbs, or_true, true_or, and_true, true_and, r1]
      · have e8 : S3 8 = S 8 := r4 8 (by decide)
        obtain ⟨S4, T4, i1, i2, i3, i4⟩ := ih n m (k + 1) S3 T3 r3 (by omega) (by omega) (by omega) (by omega)
        rw [e8, zs] at i4
        have sr := s7 a q.1 s4.2
        have ex : m_X4_routeNet_L11 p (n + 1) (zcn (S 8) p k) S = m_X4_routeNet_L11 p n (zcn (S 8) p k + 1) S3 := by
          conv => lhs; unfold m_X4_routeNet_L11
          rw [enf]
          simp (disch := omega) only [xr, xck_t, xck_T, if_pos, if_neg, if_true, if_false, xbs, or_true, true_or, and_true, true_and, s1, esk, s3, r1]
        have em : m_X9_routeNet_L65 p (m + 1) k T = m_X9_routeNet_L65 p m (k + 1) T3 := by
          conv => lhs; unfold m_X9_routeNet_L65
          rw [hk.1]
          simp (disch := omega) only [xr, xck_t, xck_T, if_pos, if_neg, if_true, if_false, xbs, or_true, true_or, and_true, true_and, r2]
        rw [ex, em]
        exact ⟨S4, T4, r4.tr i1, r5.tr i2, i3, i4⟩
    · rw [zi_f c, Int.add_zero] at zs
      obtain ⟨S4, T4, i1, i2, i3, i4⟩ := ih n m (k + 1) S T h (by omega) (by omega) (by omega) (by omega)
      rw [zs] at i4
      have em : m_X9_routeNet_L65 p (m + 1) k T = m_X9_routeNet_L65 p m (k + 1) T := by
        conv => lhs; unfold m_X9_routeNet_L65
        rw [hk.1]
        simp (disch := omega) only [xr, xck_t, xck_T, if_pos, if_neg, if_true, if_false, xbs, or_true, true_or, and_true, true_and]
      rw [em]
      exact ⟨S4, T4, i1, i2, i3, i4⟩
theorem p_start {root : Int} (hroot : xr root) : ∀ (d n : Nat) (v : Int) (S : xS), 0 ≤ v → v + d = 148 → d < n → ∃ S1, m_X4_startTree_L2 root n v S = some S1 ∧ (∀ q, q ≠ 19 → q ≠ 20 → q ≠ 21 → S1 q = S q) ∧ (∀ w, w < v → S1 19 w = S 19 w ∧ S1 20 w = S 20 w ∧ S1 21 w = S 21 w) ∧ (∀ w, v ≤ w → w < 148 → S1 21 w = zi (w = root) ∧ S1 20 w = 1048576 ∧ S1 19 w = 1 + 3 * S 17 w + S 18 w) := by
  intro d
  induction d with
  | zero =>
    intro n v S h0 h1 h2
    obtain ⟨n, rfl⟩ : ∃ j, n = j + 1 := ⟨n - 1, by omega⟩
    refine ⟨S, ?_, fun _ _ _ _ => rfl, fun _ _ => ⟨rfl, rfl, rfl⟩, fun w w0 w1 => by omega⟩
    unfold m_X4_startTree_L2
    simp (disch := omega) only [xr, xck_t, xck_T, if_pos, if_neg, if_true, if_false, xbs, or_true, true_or, and_true, true_and]
  | succ d ih =>
    intro n v S h0 h1 h2
    obtain ⟨n, rfl⟩ : ∃ j, n = j + 1 := ⟨n - 1, by omega⟩
    have e : xck (xr root) (if v = root then some (1 : Int) else some 0) = some (zi (v = root)) := by
      rw [xck_t hroot]
      by_cases c : v = root
      · rw [if_pos c, zi_t c]
      · rw [if_neg c, zi_f c]
    have z := zi_01 (v = root)
    obtain ⟨S1, i1, i2, i3, i4⟩ := ih n (v + 1) (xup (xup (xup S 21 v (zi (v = root))) 20 v 1048576) 19 v (1 + 3 * S 17 v + S 18 v)) (by omega) (by omega) (by omega)
    refine ⟨S1, ?_, fun q q1 q2 q3 => by rw [i2 q q1 q2 q3, xup_q _ _ _ q1, xup_q _ _ _ q2, xup_q _ _ _ q3], fun w hw => ?_, fun w w0 w1 => ?_⟩
    · unfold m_X4_startTree_L2
      rw [e]
      simp (disch := omega) only [xr, xck_t, xck_T, if_pos, if_neg, if_true, if_false, xbs, or_true, true_or, and_true, true_and]
      exact i1
    · obtain ⟨j1, j2, j3⟩ := i3 w (by omega)
      rw [j1, j2, j3]
      refine ⟨?_, ?_, ?_⟩
      · rw [xup_i _ _ _ (by omega), xup_q _ _ _ (by decide : (19 : Nat) ≠ 20), xup_q _ _ _ (by decide : (19 : Nat) ≠ 21)]
      · rw [xup_q _ _ _ (by decide : (20 : Nat) ≠ 19), xup_i _ _ _ (by omega), xup_q _ _ _ (by decide : (20 : Nat) ≠ 21)]
      · rw [xup_q _ _ _ (by decide : (21 : Nat) ≠ 19), xup_q _ _ _ (by decide : (21 : Nat) ≠ 20), xup_i _ _ _ (by omega)]
    · by_cases q : w = v
      · obtain ⟨j1, j2, j3⟩ := i3 w (by omega)
        rw [j1, j2, j3, q]
        refine ⟨?_, ?_, ?_⟩
        · rw [xup_q _ _ _ (by decide : (21 : Nat) ≠ 19), xup_q _ _ _ (by decide : (21 : Nat) ≠ 20), xup_s]
        · rw [xup_q _ _ _ (by decide : (20 : Nat) ≠ 19), xup_s]
        · rw [xup_s]
      · have := i4 w (by omega) w1
        rw [xup_q _ _ _ (by decide : (17 : Nat) ≠ 19), xup_q _ _ _ (by decide : (17 : Nat) ≠ 20), xup_q _ _ _ (by decide : (17 : Nat) ≠ 21), xup_q _ _ _ (by decide : (18 : Nat) ≠ 19), xup_q _ _ _ (by decide : (18 : Nat) ≠ 20), xup_q _ _ _ (by decide : (18 : Nat) ≠ 21)] at this
        exact this
theorem p_clr17 {p : Int} : ∀ (d n : Nat) (v : Int) (T : xS), 0 ≤ v → v + d = 148 → d < n → ∃ T1, m_X9_routeNet_L2 p n v T = some T1 ∧ (∀ q, q ≠ 17 → T1 q = T q) ∧ (∀ w, w < v → T1 17 w = T 17 w) ∧ (∀ w, v ≤ w → w < 148 → T1 17 w = 0) := by
  intro d
  induction d with
  | zero =>
    intro n v T h0 h1 h2
    obtain ⟨n, rfl⟩ : ∃ j, n = j + 1 := ⟨n - 1, by omega⟩
    refine ⟨T, ?_, fun _ _ => rfl, fun _ _ => rfl, fun w w0 w1 => by omega⟩
    unfold m_X9_routeNet_L2
    simp (disch := omega) only [xr, xck_t, xck_T, if_pos, if_neg, if_true, if_false, xbs, or_true, true_or, and_true, true_and]
  | succ d ih =>
    intro n v T h0 h1 h2
    obtain ⟨n, rfl⟩ : ∃ j, n = j + 1 := ⟨n - 1, by omega⟩
    obtain ⟨T1, i1, i2, i3, i4⟩ := ih n (v + 1) (xup T 17 v 0) (by omega) (by omega) (by omega)
    refine ⟨T1, ?_, fun q hq => by rw [i2 q hq, xup_q _ _ _ hq], fun w hw => by rw [i3 w (by omega), xup_i _ _ _ (by omega)], fun w w0 w1 => ?_⟩
    · unfold m_X9_routeNet_L2
      simp (disch := omega) only [xr, xck_t, xck_T, if_pos, if_neg, if_true, if_false, xbs, or_true, true_or, and_true, true_and]
      exact i1
    · by_cases q : w = v
      · rw [i3 w (by omega), q, xup_s]
      · exact i4 w (by omega) w1
/-- users counted -/
theorem p_use4 : ∀ (d n : Nat) (v : Int) (S : xS), (∀ w, 0 ≤ w → w < 148 → S 21 w = 0 ∨ S 21 w = 1) → 0 ≤ v → v + d = 148 → d < n → ∃ S1, m_X4_routeNet_L72 n v S = some S1 ∧ (∀ q, q ≠ 17 → S1 q = S q) ∧ (∀ w, w < v → S1 17 w = S 17 w) ∧ (∀ w, v ≤ w → w < 148 → S1 17 w = S 17 w + S 21 w) := by
  intro d
  induction d with
  | zero =>
    intro n v S ht h0 h1 h2
    obtain ⟨n, rfl⟩ : ∃ j, n = j + 1 := ⟨n - 1, by omega⟩
    refine ⟨S, ?_, fun _ _ => rfl, fun _ _ => rfl, fun w w0 w1 => by omega⟩
    unfold m_X4_routeNet_L72
    simp (disch := omega) only [xr, xck_t, xck_T, if_pos, if_neg, if_true, if_false, xbs, or_true, true_or, and_true, true_and]
  | succ d ih =>
    intro n v S ht h0 h1 h2
    obtain ⟨n, rfl⟩ : ∃ j, n = j + 1 := ⟨n - 1, by omega⟩
    have e : xck (xr (S 21 v)) (if S 21 v = 0 then some (0 : Int) else some 1) = some (S 21 v) := by
      rcases ht v h0 (by omega) with q | q <;> rw [q] <;> simp (disch := omega) only [xr, xck_t, xck_T, if_pos, if_neg, if_true, if_false, xbs, or_true, true_or, and_true, true_and]
    obtain ⟨S1, i1, i2, i3, i4⟩ := ih n (v + 1) (xup S 17 v (S 17 v + S 21 v)) (by rw [xup_q _ _ _ (by decide : (21 : Nat) ≠ 17)]; exact ht) (by omega) (by omega) (by omega)
    rw [xup_q _ _ _ (by decide : (21 : Nat) ≠ 17)] at i4
    refine ⟨S1, ?_, fun q hq => by rw [i2 q hq, xup_q _ _ _ hq], fun w hw => by rw [i3 w (by omega), xup_i _ _ _ (by omega)], fun w w0 w1 => ?_⟩
    · unfold m_X4_routeNet_L72
      rw [e]
      simp (disch := omega) only [xr, xck_t, xck_T, if_pos, if_neg, if_true, if_false, xbs, or_true, true_or, and_true, true_and]
      exact i1
    · by_cases q : w = v
      · rw [i3 w (by omega), q, xup_s]
      · have := i4 w (by omega) w1
        rw [xup_i _ _ _ q] at this
        exact this
theorem p_use9 : ∀ (d n : Nat) (v : Int) (T : xS), (∀ w, 0 ≤ w → w < 148 → T 17 w = 0 ∨ T 17 w = 1) → 0 ≤ v → v + d = 148 → d < n → ∃ T1, m_X9_routeNet_L99 n v T = some T1 ∧ (∀ q, q ≠ 15 → T1 q = T q) ∧ (∀ w, w < v → T1 15 w = T 15 w) ∧ (∀ w, v ≤ w → w < 148 → T1 15 w = T 15 w + T 17 w) := by
  intro d
  induction d with
  | zero =>
    intro n v T ht h0 h1 h2
    obtain ⟨n, rfl⟩ : ∃ j, n = j + 1 := ⟨n - 1, by omega⟩
    refine ⟨T, ?_, fun _ _ => rfl, fun _ _ => rfl, fun w w0 w1 => by omega⟩
    unfold m_X9_routeNet_L99
    simp (disch := omega) only [xr, xck_t, xck_T, if_pos, if_neg, if_true, if_false, xbs, or_true, true_or, and_true, true_and]
  | succ d ih =>
    intro n v T ht h0 h1 h2
    obtain ⟨n, rfl⟩ : ∃ j, n = j + 1 := ⟨n - 1, by omega⟩
    have e : xck (xr (T 17 v)) (if T 17 v = 0 then some (0 : Int) else some 1) = some (T 17 v) := by
      rcases ht v h0 (by omega) with q | q <;> rw [q] <;> simp (disch := omega) only [xr, xck_t, xck_T, if_pos, if_neg, if_true, if_false, xbs, or_true, true_or, and_true, true_and]
    obtain ⟨T1, i1, i2, i3, i4⟩ := ih n (v + 1) (xup T 15 v (T 15 v + T 17 v)) (by rw [xup_q _ _ _ (by decide : (17 : Nat) ≠ 15)]; exact ht) (by omega) (by omega) (by omega)
    rw [xup_q _ _ _ (by decide : (17 : Nat) ≠ 15)] at i4
    refine ⟨T1, ?_, fun q hq => by rw [i2 q hq, xup_q _ _ _ hq], fun w hw => by rw [i3 w (by omega), xup_i _ _ _ (by omega)], fun w w0 w1 => ?_⟩
    · unfold m_X9_routeNet_L99
      rw [e]
      simp (disch := omega) only [xr, xck_t, xck_T, if_pos, if_neg, if_true, if_false, xbs, or_true, true_or, and_true, true_and]
      exact i1
    · by_cases q : w = v
      · rw [i3 w (by omega), q, xup_s]
      · have := i4 w (by omega) w1
        rw [xup_i _ _ _ q] at this
        exact this
/-- between the nets: users up to B, history up to H -/
def zUs (S T : xS) (B H : Int) : Prop := ∀ w, 0 ≤ w → w < 148 → (S 17 w = T 15 w ∧ 0 ≤ S 17 w ∧ S 17 w ≤ B) ∧ (S 18 w = T 16 w ∧ 0 ≤ S 18 w ∧ S 18 w ≤ H)
def zNr (S T : xS) (B H : Int) : Prop := zFA S ∧ zFB S ∧ zQ S ∧ zPC S T ∧ zSwt S T ∧ zUs S T B H
def zfR (S S1 : xS) : Prop := ∀ q, q < 17 ∨ (25 < q ∧ q < 53) ∨ 54 < q → S1 q = S q
def zfU (T T1 : xS) : Prop := ∀ q, q < 15 ∨ 20 < q → T1 q = T q
theorem zfR.tr {A B C : xS} (a : zfR A B) (b : zfR B C) : zfR A C := fun q h => by rw [b q h, a q h]
theorem zfU.tr {A B C : xS} (a : zfU A B) (b : zfU B C) : zfU A C := fun q h => by rw [b q h, a q h]
theorem zfR.rf (A : xS) : zfR A A := fun _ _ => rfl
theorem zfU.rf (A : xS) : zfU A A := fun _ _ => rfl
theorem zfR.pc {S T S1 T1 : xS} (h : zPC S T) (a : zfR S S1) (b : zfU T T1) : zPC S1 T1 := h.ofF (fun q hq => a q (by omega)) (fun q hq => b q (by omega))
theorem p_net {S T : xS} {p B H : Int} (h : zNr S T B H) (hp : 0 ≤ p ∧ p < 14) (hs : 0 < zcn (S 8) p 34) (hB : 0 ≤ B ∧ B ≤ 14) (hH : 0 ≤ H ∧ H ≤ 300) : ∃ r S1 T1, m_X4_routeNet p S = some (r, S1) ∧ m_X9_routeNet p T = some (r, T1) ∧ zfR S S1 ∧ zfU T T1 ∧ zQ S1 ∧ (r = 0 ∨ (r = 1 ∧ zNr S1 T1 (B + 1) H)) := by
  obtain ⟨hA, hF, hQ, hP, hS, hU⟩ := id h
  obtain ⟨⟨hn, e50, hcc, hss, h7⟩, hN, hz1, hz2⟩ := id hP
  obtain ⟨j, j0, j1⟩ := zcn_ex (S 8) p (by omega) hs
  have hzs := (hss j j0.1 j0.2).2
  rw [j1] at hzs
  unfold zsrc at hzs
  obtain ⟨T1, t1, t2, t3, t4⟩ := p_clr17 (p := p) 148 2000 0 T (by omega) (by omega) (by omega)
  -- the root
  obtain ⟨root, x1, x2, x3⟩ : ∃ root, m_X4_wireOf p S = some root ∧ (0 ≤ root ∧ root < 148) ∧ (xck (xr p) (if 10 ≤ p then some (134 + p) else (if 10 ≤ p then some (0 : Int) else some p).bind (fun r8 => xck (0 ≤ r8 ∧ r8 < 10) (some (9 * (T1 13 r8)))))) = some root := by
    by_cases a : p < 10
    · obtain ⟨y1, y2⟩ := hz2 p hp.1 (by omega)
      refine ⟨9 * S 16 p, ?_, by omega, ?_⟩
      · unfold m_X4_wireOf m_X3_siteOf m_X1_outletOf
        simp (disch := omega) only [xr, xck_t, xck_T, if_pos, if_neg, if_true, if_false, xbs, or_true, true_or, and_true, true_and]
        exact congrArg some (by omega)
      · rw [t2 13 (by decide), y1]
        simp (disch := omega) only [xr, xck_t, xck_T, if_pos, if_neg, if_true, if_false, xbs, or_true, true_or, and_true, true_and]
    · refine ⟨134 + p, ?_, by omega, ?_⟩
      · unfold m_X4_wireOf
        simp (disch := omega) only [xr, xck_t, xck_T, if_pos, if_neg, if_true, if_false, xbs, or_true, true_or, and_true, true_and]
        exact congrArg some (by omega)
      · simp (disch := omega) only [xr, xck_t, xck_T, if_pos, if_neg, if_true, if_false, xbs, or_true, true_or, and_true, true_and]
  obtain ⟨S1, s1, s2, s3, s4⟩ := p_start (root := root) ⟨by omega, by omega⟩ 148 2000 0 S (by omega) (by omega) (by omega)
  have eT17 : ∀ w, 0 ≤ w → w < 148 → xup T1 17 root 1 17 w = zi (w = root) := fun w w0 w1 => by
    by_cases c : w = root
    · rw [c, xup_s, zi_t rfl]
    · rw [xup_i _ _ _ c, t4 w w0 w1, zi_f c]
  have oT : ∀ q, q ≠ 17 → xup T1 17 root 1 q = T q := fun q hq => by rw [xup_q _ _ _ hq, t2 q hq]
  have q25 := s2 25 (by decide) (by decide) (by decide)
  have q53 := s2 53 (by decide) (by decide) (by decide)
  have q54 := s2 54 (by decide) (by decide) (by decide)
  have hQ1 : zQ S1 := hQ.of q25 q53 q54
  have hRt : zRt S1 (xup T1 17 root 1) := by
    refine ⟨⟨hA.of (s2 2 (by decide) (by decide) (by decide)) (s2 3 (by decide) (by decide) (by decide)), ?_, fun w w0 w1 => ?_, fun w w0 w1 => ?_, fun w w0 w1 => ?_, fun w w0 w1 wt wk => ?_, fun v s v0 s0 s1' z z1 z2 => ?_⟩, hQ1, hF.of (s2 0 (by decide) (by decide) (by decide)) (s2 1 (by decide) (by decide) (by decide)), hP.ofF (fun q hq => s2 q (by omega) (by omega) (by omega)) (fun q hq => oT q (by omega)), ?_, fun w w0 w1 => ?_⟩
    · obtain ⟨y1, y2, y3⟩ := hQ1
      refine ⟨y2, by omega, fun w w0 w1 => Or.inl (y3 w w0 w1), ?_, fun i i0 i1 => by omega, fun i j i0 i1 j1 => by omega, fun w w0 w1 wq => ?_⟩
      · rw [y1, zsum_0 _ 148 (fun j j0 j1 => y3 j j0 (by omega))]
      · rw [y3 w w0 w1] at wq
        omega
    · rw [(s4 w w0 w1).2.1]
      omega
    · rw [(s4 w w0 w1).2.2]
      have := hU w w0 w1
      omega
    · rw [(s4 w w0 w1).1]
      have := zi_01 (w = root)
      omega
    · rw [(s4 w w0 w1).2.1] at wk
      omega
    · have hv := zisch_in v0
      have hu := zbc_in (zch_in v0).1 ⟨s0, s1'⟩
      rw [(s4 v hv.1 hv.2).2.1, (s4 _ z hu).2.1, (s4 v hv.1 hv.2).2.2]
      have := hU v hv.1 hv.2
      omega
    · unfold zSwt at hS ⊢
      rw [s2 23 (by decide) (by decide) (by decide), s2 22 (by decide) (by decide) (by decide), oT 19 (by decide), oT 20 (by decide)]
      exact hS
    · rw [(s4 w w0 w1).1, eT17 w w0 w1, (s4 w w0 w1).2.2, oT 15 (by decide), oT 16 (by decide)]
      have := hU w w0 w1
      exact ⟨rfl, by rw [this.1.1, this.2.1]⟩
  obtain ⟨S2, T2, i1, i2, i3, i4⟩ := p_netL hp 34 2000 2000 0 S1 _ hRt (by omega) (by omega) (by omega) (by omega)
  rw [zcn_0] at i4
  have est : m_X4_startTree root S = some S1 := by
    unfold m_X4_startTree
    rw [s1, xbs]
  have f1 : zfR S S2 := fun q hq => by rw [i1 q (by omega), s2 q (by omega) (by omega) (by omega)]
  have f2 : zfU T T2 := fun q hq => by rw [i2 q (by omega), oT q (by omega)]
  rcases i4 with ⟨k1, k2, k3⟩ | ⟨k1, k2⟩
  · have h21 := k3.1.2.2.2.2.1
    obtain ⟨S3, a1, a2, a3, a4⟩ := p_use4 148 2000 0 S2 h21 (by omega) (by omega) (by omega)
    obtain ⟨T3, b1, b2, b3, b4⟩ := p_use9 148 2000 0 T2 (fun w w0 w1 => by rw [← (k3.2.2.2.2.2 w w0 w1).1]; exact h21 w w0 w1) (by omega) (by omega) (by omega)
    have g1 : zfR S S3 := fun q hq => by rw [a2 q (by omega), f1 q hq]
    have g2 : zfU T T3 := fun q hq => by rw [b2 q (by omega), f2 q hq]
    have hQ3 : zQ S3 := i3.of (a2 25 (by decide)) (a2 53 (by decide)) (a2 54 (by decide))
    refine ⟨1, S3, T3, ?_, ?_, g1, g2, hQ3, Or.inr ⟨rfl, hA.of (g1 2 (by decide)) (g1 3 (by decide)), hF.of (g1 0 (by decide)) (g1 1 (by decide)), hQ3, zfR.pc hP g1 g2, ?_, fun w w0 w1 => ?_⟩⟩
    · unfold m_X4_routeNet
      rw [x1, xbs, est, xbs, k1, xbs]
      simp only [a1, xbs]
    · unfold m_X9_routeNet
      rw [t1, xbs, x3, xbs, k2]
      simp (disch := omega) only [xr, xck_t, xck_T, if_pos, if_neg, if_true, if_false, xbs, or_true, true_or, and_true, true_and, b1]
    · have := k3.2.2.2.2.1
      unfold zSwt at this ⊢
      rw [a2 23 (by decide), a2 22 (by decide), b2 19 (by decide), b2 20 (by decide)]
      exact this
    · have u := hU w w0 w1
      have z := h21 w w0 w1
      have e17 : S2 17 = S 17 := by rw [i1 17 (by decide), s2 17 (by decide) (by decide) (by decide)]
      have e18 : S2 18 = S 18 := by rw [i1 18 (by decide), s2 18 (by decide) (by decide) (by decide)]
      have e15 : T2 15 = T 15 := by rw [i2 15 (by decide), oT 15 (by decide)]
      have e16 : T2 16 = T 16 := by rw [i2 16 (by decide), oT 16 (by decide)]
      have et := (k3.2.2.2.2.2 w w0 w1).1
      rw [a4 w w0 w1, b4 w w0 w1, a2 18 (by decide), b2 16 (by decide), e17, e18, e15, e16, ← et]
      refine ⟨⟨by omega, by omega, by omega⟩, u.2⟩
  · refine ⟨0, S2, T2, ?_, ?_, f1, f2, i3, Or.inl rfl⟩
    · unfold m_X4_routeNet
      rw [x1, xbs, est, xbs, k1, xbs]
    · unfold m_X9_routeNet
      rw [t1, xbs, x3, xbs, k2]
      simp (disch := omega) only [xr, xck_t, xck_T, if_pos, if_neg, if_true, if_false, xbs, or_true, true_or, and_true, true_and]
