/-! placing: its cost -/
/-- where a sink lies -/
def zsk (S : xS) (k : Int) : Int := if k < 30 then S 16 (k / 3) else (k - 30 + 1) * 4 - 1
def zPC (S T : xS) : Prop := zCirc S T ∧ zNet S ∧ zPz S T (S 50 0)
theorem zPC.sk {S T : xS} (h : zPC S T) {p k : Int} (hp : 0 ≤ p) (hk : 0 ≤ k ∧ k < 34) (e : S 8 k = p) : (0 ≤ zsk S k ∧ zsk S k ≤ 15) ∧ (k < 30 → T 13 (k / 3) = zsk S k) := by
  obtain ⟨⟨hn, e50, hcc, hs, h7⟩, hN, h1, h2⟩ := h
  unfold zsk
  by_cases a : k < 30
  · rw [if_pos a]
    have hc : k / 3 < S 50 0 := by
      by_cases q : k / 3 < S 50 0
      · exact q
      · have := (h7 (k / 3) (by omega) (by omega)).2 (k % 3) (by omega) (by omega)
        rw [show k / 3 * 3 + k % 3 = k by omega] at this
        omega
    have := h2 (k / 3) (by omega) hc
    exact ⟨this.2, fun _ => this.1.symm⟩
  · rw [if_neg a]
    exact ⟨by omega, fun q => absurd q a⟩
theorem p_siteOfSink {S : xS} {k : Int} (hk : 0 ≤ k ∧ k < 34) : m_X3_siteOfSink k S = some (zsk S k) := by
  unfold m_X3_siteOfSink zsk
  by_cases a : k < 30
  · simp (disch := omega) only [xr, xck_t, xck_T, if_pos, if_neg, if_true, if_false, xbs, or_true, true_or, and_true, true_and]
  · simp (disch := omega) only [xr, xck_t, xck_T, if_pos, if_neg, if_true, if_false, xbs, or_true, true_or, and_true, true_and]
theorem p_lies1 {T : xS} {k s : Int} (hk : 0 ≤ k ∧ k < 34) (hs : 0 ≤ s ∧ s ≤ 15) (h1 : k < 30 → T 13 (k / 3) = s) (h2 : ¬ k < 30 → s = (k - 30 + 1) * 4 - 1) : ∃ w, ((if 30 ≤ k then some ((14 + k) - 30) else xck (0 ≤ k ∧ k ≤ 2147483647) (some (k / 3))) = some w) ∧ m_X9_lies w 1 T = some (s / 4) ∧ m_X9_lies w 0 T = some (s % 4) := by
  by_cases a : k < 30
  · have e := h1 a
    refine ⟨k / 3, by simp (disch := omega) only [xr, xck_t, xck_T, if_pos, if_neg, if_true, if_false, xbs, or_true, true_or, and_true, true_and], ?_, ?_⟩
    · unfold m_X9_lies
      simp (disch := omega) only [xr, xck_t, xck_T, if_pos, if_neg, if_true, if_false, xbs, or_true, true_or, and_true, true_and, e]
    · unfold m_X9_lies
      simp (disch := omega) only [xr, xck_t, xck_T, if_pos, if_neg, if_true, if_false, xbs, or_true, true_or, and_true, true_and, e]
  · have e := h2 a
    refine ⟨14 + k - 30, by simp (disch := omega) only [xr, xck_t, xck_T, if_pos, if_neg, if_true, if_false, xbs, or_true, true_or, and_true, true_and], ?_, ?_⟩
    · unfold m_X9_lies
      simp (disch := omega) only [xr, xck_t, xck_T, if_pos, if_neg, if_true, if_false, xbs, or_true, true_or, and_true, true_and]
      congr 1
      omega
    · unfold m_X9_lies
      simp (disch := omega) only [xr, xck_t, xck_T, if_pos, if_neg, if_true, if_false, xbs, or_true, true_or, and_true, true_and]
      congr 1
      omega
theorem p_mn {a x : Int} (ha : xr a) (hx : xr x) : xck (xr x ∧ xr a) (if a ≤ x then some a else some x) = some (xb_min a x) := by
  rw [xck_t ⟨hx, ha⟩]
  unfold xb_min
  by_cases c : a ≤ x
  · rw [if_pos c, if_neg (by omega)]
  · rw [if_neg c, if_pos (by omega)]
theorem p_mx {a x : Int} (ha : xr a) (hx : xr x) : xck (xr x ∧ xr a) (if x ≤ a then some a else some x) = some (xb_max a x) := by
  rw [xck_t ⟨hx, ha⟩]
  unfold xb_max
  by_cases c : x ≤ a
  · rw [if_pos c, if_neg (by omega)]
  · rw [if_neg c, if_pos (by omega)]
theorem zmn {a x : Int} (ha : 0 ≤ a ∧ a ≤ 3) (hx : 0 ≤ x ∧ x ≤ 3) : (0 ≤ xb_min a x ∧ xb_min a x ≤ 3) ∧ (0 ≤ xb_max a x ∧ xb_max a x ≤ 3) := by
  unfold xb_min xb_max
  by_cases c : x < a
  · rw [if_pos c, if_neg (by omega)]
    omega
  · rw [if_neg c]
    by_cases d : a < x
    · rw [if_pos d]
      omega
    · rw [if_neg d]
      omega
theorem p_spanL {S T : xS} (h : zPC S T) {p : Int} (hp : 0 ≤ p ∧ p < 14) : ∀ (d n1 n2 n3 : Nat) (v a b e f : Int), 0 ≤ v → v + d = 34 → d < n1 → d < n2 → d < n3 → (0 ≤ a ∧ a ≤ 3) → (0 ≤ b ∧ b ≤ 3) → (0 ≤ e ∧ e ≤ 3) → (0 ≤ f ∧ f ≤ 3) →
    ∃ a1 b1 e1 f1, m_X3_spanOf_L25 p S n1 a b e f (zcn (S 8) p v) = some (a1, b1, e1, f1) ∧ m_X9_span_L13 p 1 T n2 a b v = some (a1, b1) ∧ m_X9_span_L13 p 0 T n3 e f v = some (e1, f1) ∧ (0 ≤ a1 ∧ a1 ≤ 3) ∧ (0 ≤ b1 ∧ b1 ≤ 3) ∧ (0 ≤ e1 ∧ e1 ≤ 3) ∧ (0 ≤ f1 ∧ f1 ≤ 3) := by
  obtain ⟨⟨hn, e50, hcc, hs, h7⟩, hN, h1, h2⟩ := id h
  intro d
  induction d with
  | zero =>
    intro n1 n2 n3 v a b e f h0 hv l1 l2 l3 ha hb he hf
    obtain ⟨n1, rfl⟩ : ∃ j, n1 = j + 1 := ⟨n1 - 1, by omega⟩
    obtain ⟨n2, rfl⟩ : ∃ j, n2 = j + 1 := ⟨n2 - 1, by omega⟩
    obtain ⟨n3, rfl⟩ : ∃ j, n3 = j + 1 := ⟨n3 - 1, by omega⟩
    obtain rfl : v = 34 := by omega
    have z1 := zcn_nn (S 8) p (k := 34) (by omega)
    have z2 := zcap (S 8) hp.1 (k := 34) (by omega) (by omega)
    have z3 := zbs_le (S 8) p
    refine ⟨a, b, e, f, ?_, ?_, ?_, ha, hb, he, hf⟩
    · unfold m_X3_spanOf_L25
      rw [p_sinksOf hN hp]
      simp (disch := omega) only [xr, xck_t, xck_T, if_pos, if_neg, if_true, if_false, xbs, or_true, true_or, and_true, true_and]
    · unfold m_X9_span_L13
      simp (disch := omega) only [xr, xck_t, xck_T, if_pos, if_neg, if_true, if_false, xbs, or_true, true_or, and_true, true_and]
    · unfold m_X9_span_L13
      simp (disch := omega) only [xr, xck_t, xck_T, if_pos, if_neg, if_true, if_false, xbs, or_true, true_or, and_true, true_and]
  | succ d ih =>
    intro n1 n2 n3 v a b e f h0 hv l1 l2 l3 ha hb he hf
    obtain ⟨n2, rfl⟩ : ∃ j, n2 = j + 1 := ⟨n2 - 1, by omega⟩
    obtain ⟨n3, rfl⟩ : ∃ j, n3 = j + 1 := ⟨n3 - 1, by omega⟩
    have hsv := hs v h0 (by omega)
    have z1 := zcn_nn (S 8) p h0
    have z2 := zcap (S 8) hp.1 (k := 34) (by omega) (by omega)
    have z3 := zbs_le (S 8) p
    have zx : xr (S 8 v) := by
      have := hsv.2
      unfold zsrc at this
      exact ⟨by omega, by omega⟩
    by_cases c : S 8 v = p
    · obtain ⟨n1, rfl⟩ : ∃ j, n1 = j + 1 := ⟨n1 - 1, by omega⟩
      obtain ⟨k1, k2⟩ := h.sk hp.1 ⟨h0, by omega⟩ c
      have z4 := zcn_hit (S 8) p (k := v) (m := 34) h0 (by omega) c
      have zs := zcn_s (S 8) p h0
      rw [zi_t c] at zs
      have hw := p_lies1 (T := T) (k := v) (s := zsk S v) ⟨h0, by omega⟩ k1 k2 (fun q => by unfold zsk; rw [if_neg q])
      obtain ⟨w, w1, w2, w3⟩ := hw
      have hso := p_siteOfSink (S := S) (k := v) ⟨h0, by omega⟩
      have hsa := p_sinkAt (k := v) hN hp ⟨h0, by omega⟩ c
      generalize zsk S v = s at *
      have g1 := zmn ha (x := s / 4) ⟨by omega, by omega⟩
      have g2 := zmn hb (x := s / 4) ⟨by omega, by omega⟩
      have g3 := zmn he (x := s % 4) ⟨by omega, by omega⟩
      have g4 := zmn hf (x := s % 4) ⟨by omega, by omega⟩
      obtain ⟨a1, b1, e1, f1, i1, i2, i3, i4⟩ := ih n1 n2 n3 (v + 1) (xb_min a (s / 4)) (xb_max b (s / 4)) (xb_min e (s % 4)) (xb_max f (s % 4)) (by omega) (by omega) (by omega) (by omega) (by omega) g1.1 g2.2 g3.1 g4.2
      rw [zs] at i1
      refine ⟨a1, b1, e1, f1, ?_, ?_, ?_, i4⟩
      · unfold m_X3_spanOf_L25
        rw [p_sinksOf hN hp]
        simp (disch := omega) only [xr, xck_t, xck_T, if_pos, if_neg, if_true, if_false, xbs, or_true, true_or, and_true, true_and, hsa, hso]
        exact i1
      · unfold m_X9_span_L13
        rw [hsv.1, w1, xbs, w2, xbs, p_mn ⟨by omega, by omega⟩ ⟨by omega, by omega⟩, xbs, p_mx ⟨by omega, by omega⟩ ⟨by omega, by omega⟩, xbs]
        simp (disch := omega) only [xr, xck_t, xck_T, if_pos, if_neg, if_true, if_false, xbs, or_true, true_or, and_true, true_and]
        exact i2
      · unfold m_X9_span_L13
        rw [hsv.1, w1, xbs, w3, xbs, p_mn ⟨by omega, by omega⟩ ⟨by omega, by omega⟩, xbs, p_mx ⟨by omega, by omega⟩ ⟨by omega, by omega⟩, xbs]
        simp (disch := omega) only [xr, xck_t, xck_T, if_pos, if_neg, if_true, if_false, xbs, or_true, true_or, and_true, true_and]
        exact i3
    · have zs := zcn_s (S 8) p h0
      rw [zi_f c, Int.add_zero] at zs
      obtain ⟨a1, b1, e1, f1, i1, i2, i3, i4⟩ := ih n1 n2 n3 (v + 1) a b e f (by omega) (by omega) (by omega) (by omega) (by omega) ha hb he hf
      rw [zs] at i1
      refine ⟨a1, b1, e1, f1, i1, ?_, ?_, i4⟩
      · unfold m_X9_span_L13
        rw [hsv.1]
        simp (disch := omega) only [xr, xck_t, xck_T, if_pos, if_neg, if_true, if_false, xbs, or_true, true_or, and_true, true_and]
        exact i2
      · unfold m_X9_span_L13
        rw [hsv.1]
        simp (disch := omega) only [xr, xck_t, xck_T, if_pos, if_neg, if_true, if_false, xbs, or_true, true_or, and_true, true_and]
        exact i3
theorem zcn_ex (F : Int → Int) (p : Int) {k : Int} (h0 : 0 ≤ k) (h : 0 < zcn F p k) : ∃ j, (0 ≤ j ∧ j < k) ∧ F j = p := by
  apply Classical.byContradiction
  intro c
  have e := zcn_same F p k.toNat 0 (by omega) (fun j j0 j1 q => c ⟨j, by omega, q⟩)
  rw [show (0 : Int) + (k.toNat : Int) = k by omega, zcn_0] at e
  omega
theorem p_span {S T : xS} (h : zPC S T) {p : Int} (hp : 0 ≤ p ∧ p < 14) (hs : 0 < zcn (S 8) p 34) : ∃ r a b, m_X3_spanOf p S = some r ∧ m_X9_span p 1 T = some a ∧ m_X9_span p 0 T = some b ∧ r = a + b ∧ (-3 ≤ a ∧ a ≤ 3) ∧ (-3 ≤ b ∧ b ≤ 3) := by
  obtain ⟨⟨hn, e50, hcc, hss, h7⟩, hN, h1, h2⟩ := id h
  obtain ⟨j, j0, j1⟩ := zcn_ex (S 8) p (by omega) hs
  have hz := (hss j j0.1 j0.2).2
  rw [j1] at hz
  unfold zsrc at hz
  have hsite : ∃ s, m_X3_siteOf p S = some s ∧ (0 ≤ s ∧ s ≤ 15) ∧ m_X9_lies p 1 T = some (s / 4) ∧ m_X9_lies p 0 T = some (s % 4) := by
    by_cases a : p < 10
    · have h2p := h2 p hp.1 (by omega)
      refine ⟨S 16 p, ?_, h2p.2, ?_, ?_⟩
      · unfold m_X3_siteOf
        simp (disch := omega) only [xr, xck_t, xck_T, if_pos, if_neg, if_true, if_false, xbs, or_true, true_or, and_true, true_and]
      · unfold m_X9_lies
        rw [← h2p.1]
        simp (disch := omega) only [xr, xck_t, xck_T, if_pos, if_neg, if_true, if_false, xbs, or_true, true_or, and_true, true_and]
      · unfold m_X9_lies
        rw [← h2p.1]
        simp (disch := omega) only [xr, xck_t, xck_T, if_pos, if_neg, if_true, if_false, xbs, or_true, true_or, and_true, true_and]
    · refine ⟨(p - 10) * 4, ?_, by omega, ?_, ?_⟩
      · unfold m_X3_siteOf
        simp (disch := omega) only [xr, xck_t, xck_T, if_pos, if_neg, if_true, if_false, xbs, or_true, true_or, and_true, true_and]
      · unfold m_X9_lies
        simp (disch := omega) only [xr, xck_t, xck_T, if_pos, if_neg, if_true, if_false, xbs, or_true, true_or, and_true, true_and]
        congr 1
        omega
      · unfold m_X9_lies
        simp (disch := omega) only [xr, xck_t, xck_T, if_pos, if_neg, if_true, if_false, xbs, or_true, true_or, and_true, true_and]
        congr 1
        omega
  obtain ⟨s, s1, s2, s3, s4⟩ := hsite
  obtain ⟨a1, b1, e1, f1, i1, i2, i3, i4, i5, i6, i7⟩ := p_spanL h hp 34 2000 2000 2000 0 (s / 4) (s / 4) (s % 4) (s % 4) (by omega) (by omega) (by omega) (by omega) (by omega) (by omega) (by omega) (by omega) (by omega)
  rw [zcn_0] at i1
  refine ⟨f1 - e1 + b1 - a1, b1 - a1, f1 - e1, ?_, ?_, ?_, by omega, by omega, by omega⟩
  · unfold m_X3_spanOf
    rw [s1, xbs, i1]
    simp (disch := omega) only [xr, xck_t, xck_T, if_pos, if_neg, if_true, if_false, xbs, or_true, true_or, and_true, true_and]
  · unfold m_X9_span
    rw [s3, xbs, i2, xbs]
  · unfold m_X9_span
    rw [s4, xbs, i3, xbs]
theorem zsrc_r {n p : Int} (hn : 0 ≤ n ∧ n ≤ 10) (h : zsrc n p) : xr p := by
  unfold zsrc at h
  exact ⟨by omega, by omega⟩
theorem zPC.hF {S T : xS} (h : zPC S T) : ∀ k, 0 ≤ k → k < 34 → T 11 k = S 8 k ∧ xr (S 8 k) := fun k k0 k1 => ⟨(h.1.2.2.2.1 k k0 k1).1, zsrc_r h.1.1 (h.1.2.2.2.1 k k0 k1).2⟩
theorem p_costL {S T : xS} (h : zPC S T) : ∀ (d n m : Nat) (v a : Int), 0 ≤ v → v + d = 14 → d < n → d < m → (-6 * v ≤ a ∧ a ≤ 6 * v) → ∃ r, m_X3_sumOfSpans_L4 S n a v = some r ∧ m_X9_placeCost_L4 T m a v = some r ∧ -84 ≤ r ∧ r ≤ 84 := by
  intro d
  induction d with
  | zero =>
    intro n m v a h0 hv l1 l2 ha
    obtain ⟨n, rfl⟩ : ∃ j, n = j + 1 := ⟨n - 1, by omega⟩
    obtain ⟨m, rfl⟩ : ∃ j, m = j + 1 := ⟨m - 1, by omega⟩
    refine ⟨a, ?_, ?_, by omega, by omega⟩
    · unfold m_X3_sumOfSpans_L4
      simp (disch := omega) only [xr, xck_t, xck_T, if_pos, if_neg, if_true, if_false, xbs, or_true, true_or, and_true, true_and]
    · unfold m_X9_placeCost_L4
      simp (disch := omega) only [xr, xck_t, xck_T, if_pos, if_neg, if_true, if_false, xbs, or_true, true_or, and_true, true_and]
  | succ d ih =>
    intro n m v a h0 hv l1 l2 ha
    obtain ⟨n, rfl⟩ : ∃ j, n = j + 1 := ⟨n - 1, by omega⟩
    obtain ⟨m, rfl⟩ : ∃ j, m = j + 1 := ⟨m - 1, by omega⟩
    have z1 := zcn_nn (S 8) v (k := 34) (by omega)
    have z2 := zcap (S 8) h0 (k := 34) (by omega) (by omega)
    have z3 := zbs_le (S 8) v
    obtain ⟨r, r1, r2⟩ := p_hasSinks h.hF (p := v) ⟨h0, by omega⟩
    unfold m_X3_sumOfSpans_L4 m_X9_placeCost_L4
    rw [p_sinksOf h.2.1 ⟨h0, by omega⟩, r1]
    rcases r2 with ⟨rfl, r2⟩ | ⟨rfl, r2⟩
    · obtain ⟨r, i1, i2, i3⟩ := ih n m (v + 1) a (by omega) (by omega) (by omega) (by omega) (by omega)
      refine ⟨r, ?_, ?_, i3⟩
      · simp (disch := omega) only [xr, xck_t, xck_T, if_pos, if_neg, if_true, if_false, xbs, or_true, true_or, and_true, true_and]
        exact i1
      · simp (disch := omega) only [xr, xck_t, xck_T, if_pos, if_neg, if_true, if_false, xbs, or_true, true_or, and_true, true_and]
        exact i2
    · obtain ⟨x, y, z, x1, x2, x3, x4, x5, x6⟩ := p_span h (p := v) ⟨h0, by omega⟩ r2
      obtain ⟨r, i1, i2, i3⟩ := ih n m (v + 1) (a + (y + z)) (by omega) (by omega) (by omega) (by omega) (by omega)
      rw [x4] at x1
      refine ⟨r, ?_, ?_, i3⟩
      · simp (disch := omega) only [xr, xck_t, xck_T, if_pos, if_neg, if_true, if_false, xbs, or_true, true_or, and_true, true_and, x1]
        exact i1
      · simp (disch := omega) only [xr, xck_t, xck_T, if_pos, if_neg, if_true, if_false, xbs, or_true, true_or, and_true, true_and, x2, x3]
        exact i2
theorem p_cost3 {S T : xS} (h : zPC S T) : ∃ r, m_X3_sumOfSpans S = some r ∧ m_X9_placeCost T = some r ∧ -84 ≤ r ∧ r ≤ 84 := by
  obtain ⟨r, a1, a2, a3⟩ := p_costL h 14 2000 2000 0 0 (by omega) (by omega) (by omega) (by omega) (by omega)
  refine ⟨r, ?_, ?_, a3⟩
  · unfold m_X3_sumOfSpans
    rw [a1, xbs]
  · unfold m_X9_placeCost
    rw [a2, xbs]
