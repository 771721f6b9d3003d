/-! the circuit's ring: hasRing beside ring -/
/-- what the search for an order has so far; n0: the cells without a register -/
def zOrd (S : xS) : Prop := (∀ j, 0 ≤ j → j < S 51 0 → (0 ≤ S 11 j ∧ S 11 j < S 50 0) ∧ S 5 (S 11 j) = 0 ∧ S 12 (S 11 j) = 1) ∧
  (∀ j p, 0 ≤ j → j < S 51 0 → 0 ≤ p → p < 3 → 0 ≤ S 8 (S 11 j * 3 + p) → S 8 (S 11 j * 3 + p) < S 50 0 → S 5 (S 8 (S 11 j * 3 + p)) = 1 ∨ ∃ i, 0 ≤ i ∧ i < j ∧ S 11 i = S 8 (S 11 j * 3 + p)) ∧
  (∀ c, 0 ≤ c → c < S 50 0 → S 12 c = 1 → S 5 c = 1 ∨ ∃ j, 0 ≤ j ∧ j < S 51 0 ∧ S 11 j = c) ∧
  (∀ c, 0 ≤ c → c < S 50 0 → S 5 c = 1 → S 12 c = 1)
def zRing (S T : xS) (left n0 : Int) : Prop := zRel S T ∧ zOrd S ∧ (∀ c, 0 ≤ c → c < S 50 0 → (S 12 c = 0 ∨ S 12 c = 1) ∧ T 23 c = 1 - S 12 c) ∧ left = zsum (T 23) (S 50 0).toNat ∧ (0 ≤ S 51 0 ∧ S 51 0 + left = n0 ∧ n0 ≤ 10)
theorem p_wait1 {T : xS} (a b c : Int) : ∀ (d n : Nat) (v : Int), 0 ≤ v → v + d = 3 → 0 ≤ c → c < 10 → d < n → m_X9_ring_L71 a b c T n 1 v = some 1 := by
  intro d
  induction d with
  | zero =>
    intro n v h0 h1 c0 c1 h2
    obtain ⟨n, rfl⟩ : ∃ j, n = j + 1 := ⟨n - 1, by omega⟩
    unfold m_X9_ring_L71
    simp (disch := omega) only [xr, xck_t, xck_T, if_pos, if_neg, if_true, if_false, xbs, or_true, true_or, and_true, true_and]
  | succ d ih =>
    intro n v h0 h1 c0 c1 h2
    obtain ⟨n, rfl⟩ : ∃ j, n = j + 1 := ⟨n - 1, by omega⟩
    unfold m_X9_ring_L71
    simp (disch := omega) only [xr, xck_t, xck_T, if_pos, if_neg, if_true, if_false, xbs, or_true, true_or, and_true, true_and]
    exact ih n (v + 1) (by omega) (by omega) c0 c1 (by omega)
theorem p_wait {S T : xS} (h : zRel S T) (h12 : ∀ c, 0 ≤ c → c < S 50 0 → (S 12 c = 0 ∨ S 12 c = 1) ∧ T 23 c = 1 - S 12 c) (a b : Int) {c : Int} (hc : 0 ≤ c ∧ c < S 50 0) : ∀ (d n m : Nat) (v : Int), 0 ≤ v → v + d = 3 → d < n → d < m →
    (m_X0_orderIfReady_L21 c S n v = some (.inl ()) ∧ m_X9_ring_L71 a b c T m 0 v = some 0 ∧ ∀ p, v ≤ p → p < 3 → 0 ≤ S 8 (c * 3 + p) → S 8 (c * 3 + p) < S 50 0 → S 12 (S 8 (c * 3 + p)) = 1) ∨ (m_X0_orderIfReady_L21 c S n v = some (.inr S) ∧ m_X9_ring_L71 a b c T m 0 v = some 1) := by
  obtain ⟨hn, e50, hcc, hs, h7⟩ := h.2.2.2.1
  intro d
  induction d with
  | zero =>
    intro n m v h0 h1 h2 h3
    obtain ⟨n, rfl⟩ : ∃ j, n = j + 1 := ⟨n - 1, by omega⟩
    obtain ⟨m, rfl⟩ : ∃ j, m = j + 1 := ⟨m - 1, by omega⟩
    left
    refine ⟨?_, ?_, fun p p0 p1 => by omega⟩
    · unfold m_X0_orderIfReady_L21
      simp (disch := omega) only [xr, xck_t, xck_T, if_pos, if_neg, if_true, if_false, xbs, or_true, true_or, and_true, true_and]
    · unfold m_X9_ring_L71
      simp (disch := omega) only [xr, xck_t, xck_T, if_pos, if_neg, if_true, if_false, xbs, or_true, true_or, and_true, true_and]
  | succ d ih =>
    intro n m v h0 h1 h2 h3
    obtain ⟨n, rfl⟩ : ∃ j, n = j + 1 := ⟨n - 1, by omega⟩
    obtain ⟨m, rfl⟩ : ∃ j, m = j + 1 := ⟨m - 1, by omega⟩
    obtain ⟨s1, s2⟩ := hs (c * 3 + v) (by omega) (by omega)
    have s3 : T 11 (3 * c + v) = S 8 (c * 3 + v) := by rw [show 3 * c + v = c * 3 + v by omega]; exact s1
    have i := ih n m (v + 1) (by omega) (by omega) (by omega) (by omega)
    have sr : xr (S 8 (c * 3 + v)) := by
      unfold zsrc at s2
      exact ⟨by omega, by omega⟩
    have eh := p_hasCell hn sr
    have ei := p_in (a := 0) (b := 9) sr ⟨by omega, by omega⟩ ⟨by omega, by omega⟩
    unfold m_X0_orderIfReady_L21 m_X9_ring_L71
    rw [eh, s3, ei]
    unfold zsrc at s2
    by_cases q : 0 ≤ S 8 (c * 3 + v) ∧ S 8 (c * 3 + v) < S 50 0
    · obtain ⟨g1, g2⟩ := h12 _ q.1 q.2
      rcases g1 with g | g
      · right
        refine ⟨?_, ?_⟩
        · simp (disch := omega) only [xr, xck_t, xck_T, if_pos, if_neg, if_true, if_false, xbs, or_true, true_or, and_true, true_and]
        · simp (disch := omega) only [xr, xck_t, xck_T, if_pos, if_neg, if_true, if_false, xbs, or_true, true_or, and_true, true_and]
          exact p_wait1 a b c d m (v + 1) (by omega) (by omega) (by omega) (by omega) (by omega)
      · rcases i with ⟨i1, i2, i3⟩ | ⟨i1, i2⟩
        · left
          refine ⟨?_, ?_, fun p p0 p1 p2 p3 => ?_⟩
          · simp (disch := omega) only [xr, xck_t, xck_T, if_pos, if_neg, if_true, if_false, xbs, or_true, true_or, and_true, true_and]
            exact i1
          · simp (disch := omega) only [xr, xck_t, xck_T, if_pos, if_neg, if_true, if_false, xbs, or_true, true_or, and_true, true_and]
            exact i2
          · by_cases pp : p = v
            · rw [pp]
              exact g
            · exact i3 p (by omega) p1 p2 p3
        · right
          refine ⟨?_, ?_⟩
          · simp (disch := omega) only [xr, xck_t, xck_T, if_pos, if_neg, if_true, if_false, xbs, or_true, true_or, and_true, true_and]
            exact i1
          · simp (disch := omega) only [xr, xck_t, xck_T, if_pos, if_neg, if_true, if_false, xbs, or_true, true_or, and_true, true_and]
            exact i2
    · have q2 : ¬ (0 ≤ S 8 (c * 3 + v) ∧ S 8 (c * 3 + v) ≤ 9) := by omega
      rcases i with ⟨i1, i2, i3⟩ | ⟨i1, i2⟩
      · left
        refine ⟨?_, ?_, fun p p0 p1 p2 p3 => ?_⟩
        · simp (disch := omega) only [xr, xck_t, xck_T, if_pos, if_neg, if_true, if_false, xbs, or_true, true_or, and_true, true_and]
          exact i1
        · simp (disch := omega) only [xr, xck_t, xck_T, if_pos, if_neg, if_true, if_false, xbs, or_true, true_or, and_true, true_and]
          exact i2
        · by_cases pp : p = v
          · rw [pp] at p2 p3
            exact absurd ⟨p2, p3⟩ q
          · exact i3 p (by omega) p1 p2 p3
      · right
        refine ⟨?_, ?_⟩
        · simp (disch := omega) only [xr, xck_t, xck_T, if_pos, if_neg, if_true, if_false, xbs, or_true, true_or, and_true, true_and]
          exact i1
        · simp (disch := omega) only [xr, xck_t, xck_T, if_pos, if_neg, if_true, if_false, xbs, or_true, true_or, and_true, true_and]
          exact i2
theorem zsum_pos (f : Int → Int) (n : Nat) (h : ∀ j : Int, 0 ≤ j → j < (n : Int) → 0 ≤ f j ∧ f j ≤ 1) (i : Int) (h0 : 0 ≤ i) (h1 : i < n) (hi : f i = 1) : 1 ≤ zsum f n := by
  have e := zsum_up f (fun j => if j = i then 0 else f j) i n h0 (fun j hj => if_neg hj)
  rw [if_pos h1, hi] at e
  have g := (zsum_le (fun j => if j = i then 0 else f j) n (fun j j0 j1 => by
    by_cases c : j = i
    · simp only [if_pos c]
      omega
    · simp only [if_neg c]
      exact h j j0 j1)).1
  simp only [if_true] at e
  omega
/-- one cell: looked at by both -/
theorem p_ring1 {S T : xS} {left n0 : Int} (h : zRing S T left n0) (a b : Int) {c : Int} (hc : 0 ≤ c ∧ c < S 50 0) : ∃ S1 T1 left1, m_X0_orderIfReady c S = some S1 ∧ zRing S1 T1 left1 n0 ∧ S1 50 0 = S 50 0 ∧
    (∀ m, m_X9_ring_L57 b (m + 1) left c T = m_X9_ring_L57 b m left1 (c + 1) T1) := by
  obtain ⟨hR, hO, h12, hl, h51⟩ := h
  obtain ⟨hn, e50, hcc, hs, h7⟩ := hR.2.2.2.1
  have hT23 : ∀ j : Int, 0 ≤ j → j < ((S 50 0).toNat : Int) → 0 ≤ T 23 j ∧ T 23 j ≤ 1 := fun j j0 j1 => by
    obtain ⟨g1, g2⟩ := h12 j j0 (by omega)
    omega
  have hw := p_wait hR h12 left b hc 3 2000 2000 0 (by omega) (by omega) (by omega) (by omega)
  obtain ⟨g1, g2⟩ := h12 c hc.1 hc.2
  have hlb := zsum_le (T 23) (S 50 0).toNat hT23
  have stay : (S 12 c = 1 ∨ m_X9_ring_L71 left b c T 2000 0 0 = some 1) → (∃ w, m_X9_ring_L71 left b c T 2000 0 0 = some w ∧ (w = 0 ∨ w = 1)) → ∀ m, m_X9_ring_L57 b (m + 1) left c T = m_X9_ring_L57 b m left (c + 1) T := fun q qe m => by
    obtain ⟨w, e1, e2⟩ := qe
    conv => lhs; unfold m_X9_ring_L57
    rw [e1, xbs, e50]
    rcases q with q | q
    · simp (disch := omega) only [xr, xck_t, xck_T, if_pos, if_neg, if_true, if_false, xbs, or_true, true_or, and_true, true_and]
    · have hw1 : w = 1 := by
        rw [e1] at q
        exact Option.some.inj q
      subst hw1
      by_cases z : T 23 c = 1
      · simp (disch := omega) only [xr, xck_t, xck_T, if_pos, if_neg, if_true, if_false, xbs, or_true, true_or, and_true, true_and]
      · simp (disch := omega) only [xr, xck_t, xck_T, if_pos, if_neg, if_true, if_false, xbs, or_true, true_or, and_true, true_and]
  rcases g1 with g | g
  · have g3 : T 23 c = 1 := by omega
    have hpos := zsum_pos (T 23) (S 50 0).toNat hT23 c hc.1 (by omega) g3
    rcases hw with ⟨w1, w2, w3⟩ | ⟨w1, w2⟩
    · refine ⟨xup (xup (xup S 12 c 1) 11 (S 51 0) c) 51 0 (S 51 0 + 1), xup T 23 c 0, left - 1, ?_, ⟨?_, ?_, ?_, ?_, ?_⟩, ?_, ?_⟩
      · unfold m_X0_orderIfReady
        rw [w1]
        simp (disch := omega) only [xr, xck_t, xck_T, if_pos, if_neg, if_true, if_false, xbs, or_true, true_or, and_true, true_and]
      · exact hR.of (fun q hq => by rw [xup_q _ _ _ (by omega), xup_q _ _ _ (by omega), xup_q _ _ _ (by omega)]) (fun q hq => xup_q _ _ _ (by omega))
      · obtain ⟨o1, o2, o3, o4⟩ := hO
        have e51 : xup (xup (xup S 12 c 1) 11 (S 51 0) c) 51 0 (S 51 0 + 1) 51 0 = S 51 0 + 1 := xup_s _ _ _ _
        have e11 : ∀ j, xup (xup (xup S 12 c 1) 11 (S 51 0) c) 51 0 (S 51 0 + 1) 11 j = if j = S 51 0 then c else S 11 j := fun j => by
          by_cases e : j = S 51 0
          · rw [if_pos e, e]
            simp (disch := omega) only [xr, xck_t, xck_T, if_pos, if_neg, if_true, if_false, xbs, or_true, true_or, and_true, true_and, xup_q, xup_s]
          · rw [if_neg e]
            simp (disch := omega) only [xr, xck_t, xck_T, if_pos, if_neg, if_true, if_false, xbs, or_true, true_or, and_true, true_and, xup_q, xup_i]
        have e12 : ∀ j, xup (xup (xup S 12 c 1) 11 (S 51 0) c) 51 0 (S 51 0 + 1) 12 j = if j = c then 1 else S 12 j := fun j => by
          by_cases e : j = c
          · rw [if_pos e, e]
            simp (disch := omega) only [xr, xck_t, xck_T, if_pos, if_neg, if_true, if_false, xbs, or_true, true_or, and_true, true_and, xup_q, xup_s]
          · rw [if_neg e]
            simp (disch := omega) only [xr, xck_t, xck_T, if_pos, if_neg, if_true, if_false, xbs, or_true, true_or, and_true, true_and, xup_q, xup_i]
        have eo : ∀ q, q ≠ 11 → q ≠ 12 → q ≠ 51 → xup (xup (xup S 12 c 1) 11 (S 51 0) c) 51 0 (S 51 0 + 1) q = S q := fun q q1 q2 q3 => by
          rw [xup_q _ _ _ q3, xup_q _ _ _ q1, xup_q _ _ _ q2]
        unfold zOrd
        rw [e51, eo 50 (by decide) (by decide) (by decide), eo 5 (by decide) (by decide) (by decide), eo 8 (by decide) (by decide) (by decide)]
        simp only [e11, e12]
        have hc5 : S 5 c = 0 := by
          rcases (hcc c hc.1 hc.2).2.2.2.1 with q | q
          · exact q
          · have := o4 c hc.1 hc.2 q
            omega
        refine ⟨fun j j0 j1 => ?_, fun j p j0 j1 p0 p1 => ?_, fun d d0 d1 => ?_, fun d d0 d1 => ?_⟩
        · by_cases e : j = S 51 0
          · rw [if_pos e, if_pos rfl]
            exact ⟨hc, hc5, rfl⟩
          · rw [if_neg e]
            obtain ⟨x1, x2, x3⟩ := o1 j j0 (by omega)
            refine ⟨x1, x2, ?_⟩
            by_cases e2 : S 11 j = c
            · rw [if_pos e2]
            · rw [if_neg e2]
              exact x3
        · by_cases e : j = S 51 0
          · rw [if_pos e]
            intro y0 y1
            rcases o3 _ y0 y1 (w3 p p0 p1 y0 y1) with z | ⟨i, i0, i1, i2⟩
            · exact Or.inl z
            · right
              refine ⟨i, i0, by omega, ?_⟩
              rw [if_neg (by omega)]
              exact i2
          · rw [if_neg e]
            intro y0 y1
            rcases o2 j p j0 (by omega) p0 p1 y0 y1 with z | ⟨i, i0, i1, i2⟩
            · exact Or.inl z
            · right
              refine ⟨i, i0, i1, ?_⟩
              rw [if_neg (by omega)]
              exact i2
        · by_cases e : d = c
          · intro _
            right
            exact ⟨S 51 0, by omega, by omega, by rw [if_pos rfl, e]⟩
          · rw [if_neg e]
            intro q
            rcases o3 d d0 d1 q with z | ⟨i, i0, i1, i2⟩
            · exact Or.inl z
            · right
              refine ⟨i, i0, by omega, ?_⟩
              rw [if_neg (by omega)]
              exact i2
        · intro q
          by_cases e : d = c
          · rw [if_pos e]
          · rw [if_neg e]
            exact o4 d d0 d1 q
      · intro d d0 d1
        have d1 : d < S 50 0 := by simpa (disch := omega) only [xup_q] using d1
        obtain ⟨x1, x2⟩ := h12 d d0 d1
        by_cases e : d = c
        · subst e
          simp (disch := omega) only [xr, xck_t, xck_T, if_pos, if_neg, if_true, if_false, xbs, or_true, true_or, and_true, true_and, xup_q, xup_s]
          omega
        · simp (disch := omega) only [xr, xck_t, xck_T, if_pos, if_neg, if_true, if_false, xbs, or_true, true_or, and_true, true_and, xup_q, xup_i]
          exact ⟨x1, x2⟩
      · rw [xup_q _ _ _ (by decide : (50 : Nat) ≠ 51), xup_q _ _ _ (by decide : (50 : Nat) ≠ 11), xup_q _ _ _ (by decide : (50 : Nat) ≠ 12), zsum_up (T 23) (xup T 23 c 0 23) c (S 50 0).toNat hc.1 (fun j hj => xup_i _ _ _ hj), if_pos (by omega), xup_s]
        omega
      · rw [xup_s]
        omega
      · simp (disch := omega) only [xr, xck_t, xck_T, if_pos, if_neg, if_true, if_false, xbs, or_true, true_or, and_true, true_and, xup_q]
      · intro m
        conv => lhs; unfold m_X9_ring_L57
        rw [w2, xbs, e50]
        simp (disch := omega) only [xr, xck_t, xck_T, if_pos, if_neg, if_true, if_false, xbs, or_true, true_or, and_true, true_and]
        rfl
    · refine ⟨S, T, left, ?_, ⟨hR, hO, h12, hl, h51⟩, rfl, stay (Or.inr w2) ⟨1, w2, Or.inr rfl⟩⟩
      unfold m_X0_orderIfReady
      rw [w1]
      simp (disch := omega) only [xr, xck_t, xck_T, if_pos, if_neg, if_true, if_false, xbs, or_true, true_or, and_true, true_and]
  · refine ⟨S, T, left, ?_, ⟨hR, hO, h12, hl, h51⟩, rfl, stay (Or.inl g) ?_⟩
    · unfold m_X0_orderIfReady
      simp (disch := omega) only [xr, xck_t, xck_T, if_pos, if_neg, if_true, if_false, xbs, or_true, true_or, and_true, true_and]
    · rcases hw with ⟨w1, w2, w3⟩ | ⟨w1, w2⟩
      · exact ⟨0, w2, Or.inl rfl⟩
      · exact ⟨1, w2, Or.inr rfl⟩
theorem p_ring2 (a b n0 : Int) : ∀ (d n m : Nat) (c left : Int) (S T : xS), zRing S T left n0 → 0 ≤ c → c + d = S 50 0 → d < n → d < m → ∃ S1 T1 left1, m_X0_hasRing_L70 a b n c S = some S1 ∧ m_X9_ring_L57 b m left c T = some (left1, T1) ∧ zRing S1 T1 left1 n0 := by
  intro d
  induction d with
  | zero =>
    intro n m c left S T h h0 h1 h2 h3
    obtain ⟨n, rfl⟩ : ∃ j, n = j + 1 := ⟨n - 1, by omega⟩
    obtain ⟨m, rfl⟩ : ∃ j, m = j + 1 := ⟨m - 1, by omega⟩
    obtain ⟨hn, e50, _⟩ := h.1.2.2.2.1
    refine ⟨S, T, left, ?_, ?_, h⟩
    · unfold m_X0_hasRing_L70
      simp (disch := omega) only [xr, xck_t, xck_T, if_pos, if_neg, if_true, if_false, xbs, or_true, true_or, and_true, true_and]
    · unfold m_X9_ring_L57
      rw [e50]
      simp (disch := omega) only [xr, xck_t, xck_T, if_pos, if_neg, if_true, if_false, xbs, or_true, true_or, and_true, true_and]
  | succ d ih =>
    intro n m c left S T h h0 h1 h2 h3
    obtain ⟨n, rfl⟩ : ∃ j, n = j + 1 := ⟨n - 1, by omega⟩
    obtain ⟨m, rfl⟩ : ∃ j, m = j + 1 := ⟨m - 1, by omega⟩
    obtain ⟨hn, e50, _⟩ := h.1.2.2.2.1
    obtain ⟨S1, T1, l1, e1, e2, e3, e4⟩ := p_ring1 h a b (c := c) ⟨h0, by omega⟩
    obtain ⟨S2, T2, l2, i1, i2, i3⟩ := ih n m (c + 1) l1 S1 T1 e2 (by omega) (by omega) (by omega) (by omega)
    refine ⟨S2, T2, l2, ?_, ?_, i3⟩
    · unfold m_X0_hasRing_L70
      rw [e1, xbs]
      simp (disch := omega) only [xr, xck_t, xck_T, if_pos, if_neg, if_true, if_false, xbs, or_true, true_or, and_true, true_and]
      exact i1
    · rw [e4 m]
      exact i2
/-- with nothing left a sweep of the model changes nothing -/
theorem p_ring3 {S T : xS} {n0 : Int} (h : zRing S T 0 n0) (b : Int) : ∀ (d n : Nat) (c : Int), 0 ≤ c → c + d = S 50 0 → d < n → m_X9_ring_L57 b n 0 c T = some (0, T) := by
  obtain ⟨hR, hO, h12, hl, h51⟩ := h
  obtain ⟨hn, e50, hcc, hs, h7⟩ := hR.2.2.2.1
  have hT23 : ∀ j : Int, 0 ≤ j → j < ((S 50 0).toNat : Int) → 0 ≤ T 23 j ∧ T 23 j ≤ 1 := fun j j0 j1 => by
    obtain ⟨g1, g2⟩ := h12 j j0 (by omega)
    omega
  intro d
  induction d with
  | zero =>
    intro n c h0 h1 h2
    obtain ⟨n, rfl⟩ : ∃ j, n = j + 1 := ⟨n - 1, by omega⟩
    unfold m_X9_ring_L57
    rw [e50]
    simp (disch := omega) only [xr, xck_t, xck_T, if_pos, if_neg, if_true, if_false, xbs, or_true, true_or, and_true, true_and]
  | succ d ih =>
    intro n c h0 h1 h2
    obtain ⟨n, rfl⟩ : ∃ j, n = j + 1 := ⟨n - 1, by omega⟩
    have hc : 0 ≤ c ∧ c < S 50 0 := by omega
    obtain ⟨g1, g2⟩ := h12 c hc.1 hc.2
    have hT0 : ¬ T 23 c = 1 := fun q => by
      have := zsum_pos (T 23) (S 50 0).toNat hT23 c hc.1 (by omega) q
      omega
    have i := ih n (c + 1) (by omega) (by omega) (by omega)
    have hw := p_wait hR h12 0 b hc 3 2000 2000 0 (by omega) (by omega) (by omega) (by omega)
    unfold m_X9_ring_L57
    rw [e50]
    rcases hw with ⟨w1, w2, w3⟩ | ⟨w1, w2⟩
    · rw [w2]
      simp (disch := omega) only [xr, xck_t, xck_T, if_pos, if_neg, if_true, if_false, xbs, or_true, true_or, and_true, true_and]
      exact i
    · rw [w2]
      simp (disch := omega) only [xr, xck_t, xck_T, if_pos, if_neg, if_true, if_false, xbs, or_true, true_or, and_true, true_and]
      exact i
theorem p_ring4 {S T : xS} {n0 : Int} (h : zRing S T 0 n0) : ∀ (d n : Nat) (v : Int), 0 ≤ v → v + d = 10 → d < n → m_X9_ring_L49 n 0 v T = some (0, T) := by
  obtain ⟨hn, e50, _⟩ := h.1.2.2.2.1
  intro d
  induction d with
  | zero =>
    intro n v h0 h1 h2
    obtain ⟨n, rfl⟩ : ∃ j, n = j + 1 := ⟨n - 1, by omega⟩
    unfold m_X9_ring_L49
    simp (disch := omega) only [xr, xck_t, xck_T, if_pos, if_neg, if_true, if_false, xbs, or_true, true_or, and_true, true_and]
  | succ d ih =>
    intro n v h0 h1 h2
    obtain ⟨n, rfl⟩ : ∃ j, n = j + 1 := ⟨n - 1, by omega⟩
    unfold m_X9_ring_L49
    rw [p_ring3 h v (S 50 0).toNat 2000 0 (by omega) (by omega) (by omega), xbs]
    simp (disch := omega) only [xr, xck_t, xck_T, if_pos, if_neg, if_true, if_false, xbs, or_true, true_or, and_true, true_and]
    exact ih n (v + 1) (by omega) (by omega) (by omega)
theorem p_ring5 (n0 : Int) : ∀ (d n m : Nat) (v left : Int) (S T : xS), zRing S T left n0 → 0 ≤ v → v + d = 10 → d < n → d < m → ∃ S1 T1 left1, m_X0_hasRing_L54 n0 n v S = some S1 ∧ m_X9_ring_L49 m left v T = some (left1, T1) ∧ zRing S1 T1 left1 n0 := by
  intro d
  induction d with
  | zero =>
    intro n m v left S T h h0 h1 h2 h3
    obtain ⟨n, rfl⟩ : ∃ j, n = j + 1 := ⟨n - 1, by omega⟩
    obtain ⟨m, rfl⟩ : ∃ j, m = j + 1 := ⟨m - 1, by omega⟩
    refine ⟨S, T, left, ?_, ?_, h⟩
    · unfold m_X0_hasRing_L54
      simp (disch := omega) only [xr, xck_t, xck_T, if_pos, if_neg, if_true, if_false, xbs, or_true, true_or, and_true, true_and]
    · unfold m_X9_ring_L49
      simp (disch := omega) only [xr, xck_t, xck_T, if_pos, if_neg, if_true, if_false, xbs, or_true, true_or, and_true, true_and]
  | succ d ih =>
    intro n m v left S T h h0 h1 h2 h3
    obtain ⟨n, rfl⟩ : ∃ j, n = j + 1 := ⟨n - 1, by omega⟩
    obtain ⟨m, rfl⟩ : ∃ j, m = j + 1 := ⟨m - 1, by omega⟩
    obtain ⟨hn, e50, _⟩ := h.1.2.2.2.1
    have h51 := h.2.2.2.2
    have hl : 0 ≤ left := by
      rw [h.2.2.2.1]
      exact (zsum_le (T 23) (S 50 0).toNat (fun j j0 j1 => by
        obtain ⟨g1, g2⟩ := h.2.2.1 j j0 (by omega)
        omega)).1
    by_cases q : left = 0
    · subst q
      refine ⟨S, T, 0, ?_, p_ring4 h (d + 1) (m + 1) v h0 h1 h3, h⟩
      unfold m_X0_hasRing_L54
      simp (disch := omega) only [xr, xck_t, xck_T, if_pos, if_neg, if_true, if_false, xbs, or_true, true_or, and_true, true_and]
    · obtain ⟨S1, T1, l1, e1, e2, e3⟩ := p_ring2 n0 v n0 (S 50 0).toNat 2000 2000 0 left S T h (by omega) (by omega) (by omega) (by omega)
      obtain ⟨S2, T2, l2, i1, i2, i3⟩ := ih n m (v + 1) l1 S1 T1 e3 (by omega) (by omega) (by omega) (by omega)
      refine ⟨S2, T2, l2, ?_, ?_, i3⟩
      · unfold m_X0_hasRing_L54
        rw [e1]
        simp (disch := omega) only [xr, xck_t, xck_T, if_pos, if_neg, if_true, if_false, xbs, or_true, true_or, and_true, true_and]
        exact i1
      · unfold m_X9_ring_L49
        rw [e2, xbs]
        simp (disch := omega) only [xr, xck_t, xck_T, if_pos, if_neg, if_true, if_false, xbs, or_true, true_or, and_true, true_and]
        exact i2
/-- the beginning: registers count as ordered -/
theorem p_ring0 : ∀ (d n m c : Nat) (S T : xS), zRel S T → S 51 0 = 0 → (c : Int) + d = S 50 0 → d < n → d < m → (∀ j : Int, 0 ≤ j → j < c → S 12 j = S 5 j ∧ T 23 j = 1 - S 5 j) → ∃ S1 T1, m_X0_hasRing_L9 n (zsum (T 23) c) (c : Int) S = some (zsum (T1 23) (S 50 0).toNat, S1) ∧ m_X9_ring_L4 m (zsum (T 23) c) (c : Int) T = some (zsum (T1 23) (S 50 0).toNat, T1) ∧ zRel S1 T1 ∧ S1 51 0 = 0 ∧ S1 50 = S 50 ∧ S1 5 = S 5 ∧ (∀ j : Int, 0 ≤ j → j < S 50 0 → S1 12 j = S 5 j ∧ T1 23 j = 1 - S 5 j) := by
  intro d
  induction d with
  | zero =>
    intro n m c S T h e51 h1 h2 h3 hj
    obtain ⟨n, rfl⟩ : ∃ j, n = j + 1 := ⟨n - 1, by omega⟩
    obtain ⟨m, rfl⟩ : ∃ j, m = j + 1 := ⟨m - 1, by omega⟩
    obtain ⟨hn, e50, _⟩ := h.2.2.2.1
    have ec : c = (S 50 0).toNat := by omega
    refine ⟨S, T, ?_, ?_, h, e51, rfl, rfl, fun j j0 j1 => hj j j0 (by omega)⟩
    · unfold m_X0_hasRing_L9
      simp (disch := omega) only [xr, xck_t, xck_T, if_pos, if_neg, if_true, if_false, xbs, or_true, true_or, and_true, true_and]
      rw [ec]
    · unfold m_X9_ring_L4
      rw [e50]
      simp (disch := omega) only [xr, xck_t, xck_T, if_pos, if_neg, if_true, if_false, xbs, or_true, true_or, and_true, true_and]
      rw [ec]
  | succ d ih =>
    intro n m c S T h e51 h1 h2 h3 hj
    obtain ⟨n, rfl⟩ : ∃ j, n = j + 1 := ⟨n - 1, by omega⟩
    obtain ⟨m, rfl⟩ : ∃ j, m = j + 1 := ⟨m - 1, by omega⟩
    obtain ⟨hn, e50, hcc, hs, h7⟩ := h.2.2.2.1
    obtain ⟨q1, q2, q3, q4, _⟩ := hcc (c : Int) (by omega) (by omega)
    have hz : zsum (xup T 23 c (1 - S 5 c) 23) (c + 1) = zsum (T 23) c + (1 - S 5 c) := by
      show zsum (xup T 23 c (1 - S 5 c) 23) c + xup T 23 c (1 - S 5 c) 23 c = _
      rw [zsum_up (T 23) (xup T 23 c (1 - S 5 c) 23) c c (by omega) (fun j hj => xup_i _ _ _ hj), if_neg (by omega), xup_s]
      omega
    obtain ⟨S1, T1, i1, i2, i3, i4, i5, i6, i7⟩ := ih n m (c + 1) (xup S 12 c (S 5 c)) (xup T 23 c (1 - S 5 c))
      (h.of (fun q hq => xup_q _ _ _ (by omega)) (fun q hq => xup_q _ _ _ (by omega)))
      (by rw [xup_q _ _ _ (by decide : (51 : Nat) ≠ 12)]; exact e51)
      (by rw [xup_q _ _ _ (by decide : (50 : Nat) ≠ 12)]; omega) (by omega) (by omega)
      (fun j j0 j1 => by
        rw [xup_q _ _ _ (by decide : (5 : Nat) ≠ 12)]
        by_cases e : j = c
        · rw [e, xup_s, xup_s]
          exact ⟨rfl, rfl⟩
        · rw [xup_i _ _ _ e, xup_i _ _ _ e]
          exact hj j j0 (by omega))
    rw [hz, xup_q _ _ _ (by decide : (50 : Nat) ≠ 12)] at i1 i2
    rw [xup_q _ _ _ (by decide : (50 : Nat) ≠ 12)] at i5 i7
    rw [xup_q _ _ _ (by decide : (5 : Nat) ≠ 12)] at i6 i7
    have e1 : (if S 5 c = 0 then some (1 : Int) else some 0) = some (1 - S 5 c) := by
      rcases q4 with q | q <;> rw [q] <;> rfl
    refine ⟨S1, T1, ?_, ?_, i3, i4, i5, i6, i7⟩
    · unfold m_X0_hasRing_L9
      rw [e1]
      simp (disch := omega) only [xr, xck_t, xck_T, if_pos, if_neg, if_true, if_false, xbs, or_true, true_or, and_true, true_and]
      exact i1
    · unfold m_X9_ring_L4
      rw [e50, q3, e1]
      simp (disch := omega) only [xr, xck_t, xck_T, if_pos, if_neg, if_true, if_false, xbs, or_true, true_or, and_true, true_and, xup_s]
      exact i2
theorem p_ring {S T : xS} (h : zRel S T) : ∃ r S1 T1, m_X0_hasRing S = some (r, S1) ∧ m_X9_ring T = some (r, T1) ∧ zRel S1 T1 ∧ (r = 0 ∨ r = 1) ∧ (r = 0 → zOrd S1 ∧ (∀ c, 0 ≤ c → c < S1 50 0 → S1 12 c = 1) ∧ S1 51 0 ≤ 10 ∧ 0 ≤ S1 51 0) := by
  have h0 : zRel (xup S 51 0 0) T := h.of (fun q hq => xup_q _ _ _ (by omega)) (fun _ _ => rfl)
  obtain ⟨hn, e50, hcc, hs, h7⟩ := h0.2.2.2.1
  obtain ⟨S1, T1, a1, a2, a3, a4, a5, a6, a7⟩ := p_ring0 (xup S 51 0 0 50 0).toNat 2000 2000 0 (xup S 51 0 0) T h0 (xup_s _ _ _ _) (by omega) (by omega) (by omega) (fun j j0 j1 => by omega)
  obtain ⟨hn1, e501, hcc1, hs1, h71⟩ := a3.2.2.2.1
  have e5 : S1 50 0 = xup S 51 0 0 50 0 := by rw [a5]
  rw [← e5] at a1 a2
  rw [← e5, ← a6] at a7
  have hT23 : ∀ j : Int, 0 ≤ j → j < ((S1 50 0).toNat : Int) → 0 ≤ T1 23 j ∧ T1 23 j ≤ 1 := fun j j0 j1 => by
    obtain ⟨g1, g2⟩ := a7 j j0 (by omega)
    rcases (hcc1 j j0 (by omega)).2.2.2.1 with q | q
    · omega
    · omega
  have hb := zsum_le (T1 23) (S1 50 0).toNat hT23
  have hRing : zRing S1 T1 (zsum (T1 23) (S1 50 0).toNat) (zsum (T1 23) (S1 50 0).toNat) := by
    refine ⟨a3, ⟨fun j j0 j1 => by omega, fun j p j0 j1 => by omega, fun c c0 c1 q => ?_, fun c c0 c1 q => ?_⟩, fun c c0 c1 => ?_, rfl, by omega⟩
    · left
      rw [← (a7 c c0 c1).1]
      exact q
    · rw [(a7 c c0 c1).1]
      exact q
    · obtain ⟨g1, g2⟩ := a7 c c0 c1
      rw [g1, g2]
      exact ⟨(hcc1 c c0 c1).2.2.2.1, rfl⟩
  obtain ⟨S2, T2, l2, b1, b2, b3⟩ := p_ring5 (zsum (T1 23) (S1 50 0).toNat) 10 2000 2000 0 _ S1 T1 hRing (by omega) (by omega) (by omega) (by omega)
  have hs2 := b3.2.2.2.2
  have hT2 : ∀ j : Int, 0 ≤ j → j < ((S2 50 0).toNat : Int) → 0 ≤ T2 23 j ∧ T2 23 j ≤ 1 := fun j j0 j1 => by
    obtain ⟨g1, g2⟩ := b3.2.2.1 j j0 (by omega)
    omega
  have hb2 := zsum_le (T2 23) (S2 50 0).toNat hT2
  rw [← b3.2.2.2.1] at hb2
  have hX : m_X0_hasRing S = some (if zsum (T1 23) (S1 50 0).toNat ≤ S2 51 0 then 0 else 1, S2) := by
    unfold m_X0_hasRing
    have a1b : m_X0_hasRing_L9 2000 0 0 (xup S 51 0 0) = some (zsum (T1 23) (S1 50 0).toNat, S1) := a1
    rw [a1b, xbs]
    dsimp only
    rw [b1, xbs]
    by_cases q : zsum (T1 23) (S1 50 0).toNat ≤ S2 51 0
    · rw [if_pos q]
      simp (disch := omega) only [xr, xck_t, xck_T, if_pos, if_neg, if_true, if_false, xbs, or_true, true_or, and_true, true_and]
    · rw [if_neg q]
      simp (disch := omega) only [xr, xck_t, xck_T, if_pos, if_neg, if_true, if_false, xbs, or_true, true_or, and_true, true_and]
  have hY : m_X9_ring T = some (if l2 ≤ 0 then 0 else 1, T2) := by
    unfold m_X9_ring
    have a2b : m_X9_ring_L4 2000 0 0 T = some (zsum (T1 23) (S1 50 0).toNat, T1) := a2
    rw [a2b, xbs]
    dsimp only
    rw [b2, xbs]
    by_cases q : l2 ≤ 0
    · rw [if_pos q]
      simp (disch := omega) only [xr, xck_t, xck_T, if_pos, if_neg, if_true, if_false, xbs, or_true, true_or, and_true, true_and]
    · rw [if_neg q]
      simp (disch := omega) only [xr, xck_t, xck_T, if_pos, if_neg, if_true, if_false, xbs, or_true, true_or, and_true, true_and]
  by_cases q : l2 ≤ 0
  · rw [if_pos q] at hY
    rw [if_pos (by omega)] at hX
    refine ⟨0, S2, T2, hX, hY, b3.1, Or.inl rfl, fun _ => ⟨b3.2.1, fun c c0 c1 => ?_, by omega, by omega⟩⟩
    obtain ⟨g1, g2⟩ := b3.2.2.1 c c0 c1
    rcases g1 with g | g
    · have := zsum_pos (T2 23) (S2 50 0).toNat hT2 c c0 (by omega) (by omega)
      rw [← b3.2.2.2.1] at this
      omega
    · exact g
  · rw [if_neg q] at hY
    rw [if_neg (by omega)] at hX
    exact ⟨1, S2, T2, hX, hY, b3.1, Or.inr rfl, fun z => by omega⟩
