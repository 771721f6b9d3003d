/-! routing: one sink -/
theorem zPC.ofF {S T S1 T1 : xS} (h : zPC S T) (a : ∀ q, (4 ≤ q ∧ q ≤ 9) ∨ (13 ≤ q ∧ q ≤ 16) ∨ q = 50 → S1 q = S q) (b : ∀ q, (6 ≤ q ∧ q ≤ 11) ∨ q = 13 ∨ q = 14 ∨ q = 50 → T1 q = T q) : zPC S1 T1 := by
  obtain ⟨h1, h2, h3⟩ := h
  refine ⟨h1.of (a 50 (by decide)) (a 4 (by decide)) (a 5 (by decide)) (a 6 (by decide)) (a 7 (by decide)) (a 8 (by decide)) (a 9 (by decide)) (b 50 (by decide)) (b 6 (by decide)) (b 7 (by decide)) (b 8 (by decide)) (b 9 (by decide)) (b 10 (by decide)) (b 11 (by decide)), h2.of (a 8 (by decide)) (a 13 (by decide)) (a 14 (by decide)), ?_⟩
  unfold zPz at h3 ⊢
  rw [a 15 (by decide), a 16 (by decide), a 50 (by decide), b 13 (by decide), b 14 (by decide)]
  exact h3
/-- what was chosen so far for pins and channels -/
def zSwt (S T : xS) : Prop := (∀ p, 0 ≤ p → p < 48 → S 23 p = T 19 p ∧ 0 ≤ T 19 p ∧ T 19 p ≤ 9) ∧ (∀ c, 0 ≤ c → c < 128 → S 22 (9 * (c / 8) + 1 + c % 8) = T 20 c ∧ 0 ≤ T 20 c ∧ T 20 c ≤ 4)
/-- a net being routed -/
def zRt (S T : xS) : Prop := zB (-1) S ∧ zQ S ∧ zFB S ∧ zPC S T ∧ zSwt S T ∧ (∀ w, 0 ≤ w → w < 148 → S 21 w = T 17 w ∧ S 19 w = 1 + 3 * T 15 w + T 16 w)
theorem p_befPin {S : xS} (h : zFB S) {t k s : Int} (ht : 0 ≤ t ∧ t < 16) (hk : 0 ≤ k ∧ k < 3) (hs : 0 ≤ s ∧ s < 10) : m_X1_beforePin t s S = some (zbp (3 * t + k) s) := by
  have e := h.2 (3 * t + k) s (by omega) (by omega) hs.1 hs.2
  rw [show (3 * t + k) / 3 * 10 + s = t * 10 + s by omega] at e
  unfold m_X1_beforePin
  simp (disch := omega) only [xr, xck_t, xck_T, if_pos, if_neg, if_true, if_false, xbs, or_true, true_or, and_true, true_and]
  rw [e]
theorem p_near {S : xS} {a b : Int} (ha : 0 ≤ a ∧ a < 148) (hb : 0 ≤ b ∧ b < 148) (hr : zDr 1048576 (S 20)) : m_X4_isNearer a b S = some (if S 20 a < S 20 b ∨ (S 20 a = S 20 b ∧ a < b) then 1 else 0) := by
  have ra := hr a ha.1 ha.2
  have rb := hr b hb.1 hb.2
  unfold m_X4_isNearer
  by_cases c : S 20 a < S 20 b
  · rw [if_pos (Or.inl c)]
    simp (disch := omega) only [xr, xck_t, xck_T, if_pos, if_neg, if_true, if_false, xbs, or_true, true_or, and_true, true_and]
  · by_cases d : S 20 a = S 20 b
    · by_cases e : a < b
      · rw [if_pos (Or.inr ⟨d, e⟩)]
        simp (disch := omega) only [xr, xck_t, xck_T, if_pos, if_neg, if_true, if_false, xbs, or_true, true_or, and_true, true_and]
      · rw [if_neg (by omega)]
        simp (disch := omega) only [xr, xck_t, xck_T, if_pos, if_neg, if_true, if_false, xbs, or_true, true_or, and_true, true_and]
    · rw [if_neg (by omega)]
      simp (disch := omega) only [xr, xck_t, xck_T, if_pos, if_neg, if_true, if_false, xbs, or_true, true_or, and_true, true_and]
/-- what the class and the model have of a pin's ways -/
def zPn (S T : xS) (j a f g : Int) : Prop := (f = -1 ∧ (a = -1 ∨ ((0 ≤ a ∧ a < 148) ∧ S 20 a = 1048576))) ∨ ((0 ≤ f ∧ f < 148) ∧ a = f ∧ T 18 f < 1000000 ∧ S 23 j = g ∧ 1 ≤ g ∧ g ≤ 9)
theorem p_pins {T : xS} {t k : Int} (ht : 0 ≤ t ∧ t < 16) (hk : 0 ≤ k ∧ k < 3) : ∀ (d n m : Nat) (s a f g : Int) (S : xS), zFB S → zDr 1048576 (S 20) → zEq (S 20) (T 18) → zPn S T (3 * t + k) a f g → 1 ≤ s → s + d = 10 → d < n → d < m →
    ∃ a1 f1 g1 S1, m_X4_switchPin_L5 t k n a s S = some (a1, S1) ∧ m_X9_reach_L61 (3 * t + k) T m f g s = some (f1, g1) ∧ zPn S1 T (3 * t + k) a1 f1 g1 ∧ (∀ q, q ≠ 23 → S1 q = S q) ∧ (∀ j, j ≠ 3 * t + k → S1 23 j = S 23 j) := by
  intro d
  induction d with
  | zero =>
    intro n m s a f g S hF hr hE h h0 h1 l1 l2
    obtain ⟨n, rfl⟩ : ∃ j, n = j + 1 := ⟨n - 1, by omega⟩
    obtain ⟨m, rfl⟩ : ∃ j, m = j + 1 := ⟨m - 1, by omega⟩
    refine ⟨a, f, g, S, ?_, ?_, h, fun _ _ => rfl, fun _ _ => rfl⟩
    · unfold m_X4_switchPin_L5
      simp (disch := omega) only [xr, xck_t, xck_T, if_pos, if_neg, if_true, if_false, xbs, or_true, true_or, and_true, true_and]
    · unfold m_X9_reach_L61
      simp (disch := omega) only [xr, xck_t, xck_T, if_pos, if_neg, if_true, if_false, xbs, or_true, true_or, and_true, true_and]
  | succ d ih =>
    intro n m s a f g S hF hr hE h h0 h1 l1 l2
    obtain ⟨n, rfl⟩ : ∃ j, n = j + 1 := ⟨n - 1, by omega⟩
    obtain ⟨m, rfl⟩ : ∃ j, m = j + 1 := ⟨m - 1, by omega⟩
    have hj : 0 ≤ 3 * t + k ∧ 3 * t + k < 48 := by omega
    have eb := p_befPin hF ht hk (s := s) ⟨by omega, by omega⟩
    obtain ⟨eb9, b1, b2⟩ := zbp_of (c := 3 * t + k) (s := s) hj ⟨by omega, by omega⟩
    generalize hw : zbp (3 * t + k) s = w at *
    have fr : -1 ≤ f ∧ f < 148 := by
      unfold zPn at h
      omega
    have ar : -1 ≤ a ∧ a < 148 := by
      unfold zPn at h
      omega
    -- the model's best so far
    have hbest : xck (xr f) (if 0 ≤ f then xck (0 ≤ f ∧ f < 148) (some (T 18 f)) else some 1000000) = some (if 0 ≤ f then T 18 f else 1000000) := by
      by_cases q : 0 ≤ f
      · rw [if_pos q, if_pos q]
        simp (disch := omega) only [xr, xck_t, xck_T, if_pos, if_neg, if_true, if_false, xbs, or_true, true_or, and_true, true_and]
      · rw [if_neg q, if_neg q]
        simp (disch := omega) only [xr, xck_t, xck_T, if_pos, if_neg, if_true, if_false, xbs, or_true, true_or, and_true, true_and]
    have t18 : ∀ u, 0 ≤ u → u < 148 → 0 ≤ T 18 u ∧ T 18 u ≤ 1000000 := fun u u0 u1 => by
      have x := hE u u0 u1
      have y := hr u u0 u1
      omega
    have stay : zPn S T (3 * t + k) a f g → (m_X4_switchPin_L5 t k (n + 1) a s S = m_X4_switchPin_L5 t k n a (s + 1) S) → (m_X9_reach_L61 (3 * t + k) T (m + 1) f g s = m_X9_reach_L61 (3 * t + k) T m f g (s + 1)) → ∃ a1 f1 g1 S1, m_X4_switchPin_L5 t k (n + 1) a s S = some (a1, S1) ∧ m_X9_reach_L61 (3 * t + k) T (m + 1) f g s = some (f1, g1) ∧ zPn S1 T (3 * t + k) a1 f1 g1 ∧ (∀ q, q ≠ 23 → S1 q = S q) ∧ (∀ j, j ≠ 3 * t + k → S1 23 j = S 23 j) := fun h e1 e2 => by
      obtain ⟨a1, f1, g1, S1, i⟩ := ih n m (s + 1) a f g S hF hr hE h (by omega) (by omega) (by omega) (by omega)
      rw [← e1, ← e2] at i
      exact ⟨a1, f1, g1, S1, i⟩
    have upd : ∀ f2 g2, zPn (xup S 23 (3 * t + k) s) T (3 * t + k) w f2 g2 → (m_X4_switchPin_L5 t k (n + 1) a s S = m_X4_switchPin_L5 t k n w (s + 1) (xup S 23 (3 * t + k) s)) → (m_X9_reach_L61 (3 * t + k) T (m + 1) f g s = m_X9_reach_L61 (3 * t + k) T m f2 g2 (s + 1)) → ∃ a1 f1 g1 S1, m_X4_switchPin_L5 t k (n + 1) a s S = some (a1, S1) ∧ m_X9_reach_L61 (3 * t + k) T (m + 1) f g s = some (f1, g1) ∧ zPn S1 T (3 * t + k) a1 f1 g1 ∧ (∀ q, q ≠ 23 → S1 q = S q) ∧ (∀ j, j ≠ 3 * t + k → S1 23 j = S 23 j) := fun f2 g2 h e1 e2 => by
      obtain ⟨a1, f1, g1, S1, i1, i2, i3, i4, i5⟩ := ih n m (s + 1) w f2 g2 (xup S 23 (3 * t + k) s) (by
        unfold zFB at hF ⊢
        rw [xup_q _ _ _ (by decide : (0 : Nat) ≠ 23), xup_q _ _ _ (by decide : (1 : Nat) ≠ 23)]
        exact hF) (by rw [xup_q _ _ _ (by decide : (20 : Nat) ≠ 23)]; exact hr) (by rw [xup_q _ _ _ (by decide : (20 : Nat) ≠ 23)]; exact hE) h (by omega) (by omega) (by omega) (by omega)
      rw [← e1] at i1
      rw [← e2] at i2
      exact ⟨a1, f1, g1, S1, i1, i2, i3, fun q hq => by rw [i4 q hq, xup_q _ _ _ hq], fun j hj => by rw [i5 j hj, xup_i _ _ _ hj]⟩
    have ej : t * 3 + k = 3 * t + k := by omega
    by_cases hwn : w < 0
    · have w1 : w = -1 := by omega
      refine stay h ?_ ?_
      · conv => lhs; unfold m_X4_switchPin_L5
        rw [eb, xbs, w1]
        simp (disch := omega) only [xr, xck_t, xck_T, if_pos, if_neg, if_true, if_false, xbs, or_true, true_or, and_true, true_and]
      · conv => lhs; unfold m_X9_reach_L61
        rw [eb9, xbs, hbest, w1]
        rcases h with ⟨q, _⟩ | ⟨q, _, q2, _⟩
        · rw [if_neg (by omega : ¬ 0 ≤ f)]
          simp (disch := omega) only [xr, xck_t, xck_T, if_pos, if_neg, if_true, if_false, xbs, or_true, true_or, and_true, true_and]
        · rw [if_pos q.1]
          have := t18 f q.1 q.2
          simp (disch := omega) only [xr, xck_t, xck_T, if_pos, if_neg, if_true, if_false, xbs, or_true, true_or, and_true, true_and]
    · have w0 : 0 ≤ w ∧ w < 148 := by omega
      have tw := t18 w w0.1 w0.2
      have ew := hE w w0.1 w0.2
      have sw := hr w w0.1 w0.2
      have near : 0 ≤ a → m_X4_isNearer w a S = some (if S 20 w < S 20 a ∨ (S 20 w = S 20 a ∧ w < a) then 1 else 0) := fun q => p_near w0 ⟨q, ar.2⟩ hr
      have cls : (a = -1 ∨ (0 ≤ a ∧ (S 20 w < S 20 a ∨ (S 20 w = S 20 a ∧ w < a)))) → m_X4_switchPin_L5 t k (n + 1) a s S = m_X4_switchPin_L5 t k n w (s + 1) (xup S 23 (3 * t + k) s) := fun q => by
        conv => lhs; unfold m_X4_switchPin_L5
        rw [eb, xbs, ej]
        rcases q with q | ⟨q, q2⟩
        · rw [q]
          simp (disch := omega) only [xr, xck_t, xck_T, if_pos, if_neg, if_true, if_false, xbs, or_true, true_or, and_true, true_and]
        · rw [near q, if_pos q2]
          simp (disch := omega) only [xr, xck_t, xck_T, if_pos, if_neg, if_true, if_false, xbs, or_true, true_or, and_true, true_and]
      have cls0 : (0 ≤ a ∧ ¬ (S 20 w < S 20 a ∨ (S 20 w = S 20 a ∧ w < a))) → m_X4_switchPin_L5 t k (n + 1) a s S = m_X4_switchPin_L5 t k n a (s + 1) S := fun q => by
        conv => lhs; unfold m_X4_switchPin_L5
        rw [eb, xbs, near q.1, if_neg q.2]
        simp (disch := omega) only [xr, xck_t, xck_T, if_pos, if_neg, if_true, if_false, xbs, or_true, true_or, and_true, true_and]
      rcases h with ⟨hf, ha⟩ | ⟨hf, ha, hfin, hg⟩
      · have hb1 : (if 0 ≤ f then T 18 f else (1000000 : Int)) = 1000000 := if_neg (by omega)
        rw [hb1] at hbest
        by_cases fin : T 18 w < 1000000
        · have es : S 20 w = T 18 w := by omega
          refine upd w s (Or.inr ⟨w0, rfl, fin, xup_s _ _ _ _, by omega, by omega⟩) (cls ?_) ?_
          · rcases ha with ha | ⟨ha, ha2⟩
            · exact Or.inl ha
            · exact Or.inr ⟨ha.1, Or.inl (by omega)⟩
          · conv => lhs; unfold m_X9_reach_L61
            rw [eb9, xbs, hbest]
            simp (disch := omega) only [xr, xck_t, xck_T, if_pos, if_neg, if_true, if_false, xbs, or_true, true_or, and_true, true_and]
        · have es : S 20 w = 1048576 := by omega
          have mdl : m_X9_reach_L61 (3 * t + k) T (m + 1) f g s = m_X9_reach_L61 (3 * t + k) T m f g (s + 1) := by
            conv => lhs; unfold m_X9_reach_L61
            rw [eb9, xbs, hbest]
            simp (disch := omega) only [xr, xck_t, xck_T, if_pos, if_neg, if_true, if_false, xbs, or_true, true_or, and_true, true_and]
          by_cases q : a = -1 ∨ (0 ≤ a ∧ (S 20 w < S 20 a ∨ (S 20 w = S 20 a ∧ w < a)))
          · refine upd f g (Or.inl ⟨hf, Or.inr ⟨w0, ?_⟩⟩) (cls q) mdl
            rw [xup_q _ _ _ (by decide : (20 : Nat) ≠ 23)]
            exact es
          · exact stay (Or.inl ⟨hf, ha⟩) (cls0 ⟨by omega, fun z => q (Or.inr ⟨by omega, z⟩)⟩) mdl
      · have hb1 : (if 0 ≤ f then T 18 f else (1000000 : Int)) = T 18 f := if_pos hf.1
        rw [hb1] at hbest
        have ef := hE f hf.1 hf.2
        have sf : S 20 f = T 18 f := by omega
        have tf := t18 f hf.1 hf.2
        by_cases q : T 18 w < T 18 f ∨ (T 18 w = T 18 f ∧ w < f)
        · have es : S 20 w = T 18 w := by omega
          refine upd w s (Or.inr ⟨w0, rfl, by omega, xup_s _ _ _ _, by omega, by omega⟩) (cls (Or.inr ⟨by omega, ?_⟩)) ?_
          · rw [ha, sf, es]
            exact q
          · conv => lhs; unfold m_X9_reach_L61
            rw [eb9, xbs, hbest]
            by_cases q2 : T 18 w < T 18 f
            · simp (disch := omega) only [xr, xck_t, xck_T, if_pos, if_neg, if_true, if_false, xbs, or_true, true_or, and_true, true_and]
            · have q3 : T 18 w = T 18 f := by omega
              have q4 : w < f := by omega
              simp (disch := omega) only [xr, xck_t, xck_T, if_pos, if_neg, if_true, if_false, xbs, or_true, true_or, and_true, true_and]
        · refine stay (Or.inr ⟨hf, ha, hfin, hg⟩) (cls0 ⟨by omega, ?_⟩) ?_
          · rw [ha, sf]
            rcases ew with ⟨ew, _⟩ | ⟨ew, ew2⟩
            · rw [ew]
              exact q
            · rw [ew]
              omega
          · conv => lhs; unfold m_X9_reach_L61
            rw [eb9, xbs, hbest]
            by_cases q3 : T 18 w = T 18 f
            · have q4 : f ≤ w := by omega
              simp (disch := omega) only [xr, xck_t, xck_T, if_pos, if_neg, if_true, if_false, xbs, or_true, true_or, and_true, true_and]
            · simp (disch := omega) only [xr, xck_t, xck_T, if_pos, if_neg, if_true, if_false, xbs, or_true, true_or, and_true, true_and]
/-- on the way back: which setting -/
theorem p_back {S T : xS} {pr : Int → Int} (hp : zPr pr) (hF : zFB S) (hr : zDr 1048576 (S 20)) (hE : zEq (S 20) (T 18)) {w : Int} (hw : zisch w) (e19 : S 19 w = pr w) (e17 : T 17 w = 0) (ep : pr w = 1 + 3 * T 15 w + T 16 w) (hfin : T 18 w < 1000000) : ∀ (d n m : Nat) (s a g : Int), 1 ≤ s → s + d = 5 → d < n → d < m → (-1 ≤ a ∧ a < 148) → (0 ≤ a → (1 ≤ g ∧ g ≤ 4) ∧ a = zbc (zch w) g ∧ T 18 a + pr w = T 18 w) → (∀ x, 1 ≤ x → x < s → 0 ≤ zbc (zch w) x → T 18 (zbc (zch w) x) + pr w = T 18 w → 0 ≤ a) →
    ∃ a1 g1, m_X4_settingBack_L7 w S n a g s = some g1 ∧ m_X9_follow_L25 w (zch w) T m a g s = some (a1, g1) ∧ (-1 ≤ a1 ∧ a1 < 148) ∧ (0 ≤ a1 → (1 ≤ g1 ∧ g1 ≤ 4) ∧ a1 = zbc (zch w) g1 ∧ T 18 a1 + pr w = T 18 w) ∧ (∀ x, 1 ≤ x → x < 5 → 0 ≤ zbc (zch w) x → T 18 (zbc (zch w) x) + pr w = T 18 w → 0 ≤ a1) := by
  have hc := (zch_in hw).1
  have wr := zisch_in hw
  have pw := hp w wr.1 wr.2
  have ew := hE w wr.1 wr.2
  have sw := hr w wr.1 wr.2
  have epr := p_price (T := T) wr (Or.inl e17)
  rw [if_pos e17, ← ep] at epr
  intro d
  induction d with
  | zero =>
    intro n m s a g h0 h1 l1 l2 ha hg hx
    obtain ⟨n, rfl⟩ : ∃ j, n = j + 1 := ⟨n - 1, by omega⟩
    obtain ⟨m, rfl⟩ : ∃ j, m = j + 1 := ⟨m - 1, by omega⟩
    refine ⟨a, g, ?_, ?_, ha, hg, fun x x0 x1 => hx x x0 (by omega)⟩
    · unfold m_X4_settingBack_L7
      simp (disch := omega) only [xr, xck_t, xck_T, if_pos, if_neg, if_true, if_false, xbs, or_true, true_or, and_true, true_and]
    · unfold m_X9_follow_L25
      simp (disch := omega) only [xr, xck_t, xck_T, if_pos, if_neg, if_true, if_false, xbs, or_true, true_or, and_true, true_and]
  | succ d ih =>
    intro n m s a g h0 h1 l1 l2 ha hg hx
    obtain ⟨n, rfl⟩ : ∃ j, n = j + 1 := ⟨n - 1, by omega⟩
    obtain ⟨m, rfl⟩ : ∃ j, m = j + 1 := ⟨m - 1, by omega⟩
    have e3 := p_before hF (s := s) hw ⟨by omega, by omega⟩
    obtain ⟨e9, b1, b2⟩ := zbc_of (c := zch w) (s := s) hc ⟨by omega, by omega⟩
    generalize hu : zbc (zch w) s = u at *
    by_cases c : 0 ≤ u
    · have eu := hE u c b2
      have su := hr u c b2
      by_cases f : T 18 u + pr w = T 18 w
      · have f3 : S 20 u + S 19 w = S 20 w := by omega
        by_cases q : a < 0 ∨ u < a
        · obtain ⟨a1, g1, i1, i2, i3⟩ := ih n m (s + 1) u s (by omega) (by omega) (by omega) (by omega) ⟨b1, b2⟩ (fun _ => ⟨⟨by omega, by omega⟩, hu.symm, f⟩) (fun x x0 x1 x2 x3 => c)
          refine ⟨a1, g1, ?_, ?_, i3⟩
          · unfold m_X4_settingBack_L7
            rw [e3]
            by_cases q2 : a = -1
            · simp (disch := omega) only [xr, xck_t, xck_T, if_pos, if_neg, if_true, if_false, xbs, or_true, true_or, and_true, true_and]
              exact i1
            · have q3 : u < a := by omega
              simp (disch := omega) only [xr, xck_t, xck_T, if_pos, if_neg, if_true, if_false, xbs, or_true, true_or, and_true, true_and]
              exact i1
          · unfold m_X9_follow_L25
            rw [e9, epr]
            by_cases q2 : a = -1
            · simp (disch := omega) only [xr, xck_t, xck_T, if_pos, if_neg, if_true, if_false, xbs, or_true, true_or, and_true, true_and]
              exact i2
            · have q3 : u < a := by omega
              simp (disch := omega) only [xr, xck_t, xck_T, if_pos, if_neg, if_true, if_false, xbs, or_true, true_or, and_true, true_and]
              exact i2
        · obtain ⟨a1, g1, i1, i2, i3⟩ := ih n m (s + 1) a g (by omega) (by omega) (by omega) (by omega) ha hg (fun x x0 x1 x2 x3 => by omega)
          refine ⟨a1, g1, ?_, ?_, i3⟩
          · unfold m_X4_settingBack_L7
            rw [e3]
            simp (disch := omega) only [xr, xck_t, xck_T, if_pos, if_neg, if_true, if_false, xbs, or_true, true_or, and_true, true_and]
            exact i1
          · unfold m_X9_follow_L25
            rw [e9, epr]
            simp (disch := omega) only [xr, xck_t, xck_T, if_pos, if_neg, if_true, if_false, xbs, or_true, true_or, and_true, true_and]
            exact i2
      · have f3 : ¬ S 20 u + S 19 w = S 20 w := by omega
        obtain ⟨a1, g1, i1, i2, i3⟩ := ih n m (s + 1) a g (by omega) (by omega) (by omega) (by omega) ha hg (fun x x0 x1 x2 x3 => by
          by_cases q : x = s
          · rw [q, hu] at x3
            exact absurd x3 f
          · exact hx x x0 (by omega) x2 x3)
        have t18u : 0 ≤ T 18 u ∧ T 18 u ≤ 1000000 := by omega
        have t18w : 0 ≤ T 18 w ∧ T 18 w ≤ 1000000 := by omega
        refine ⟨a1, g1, ?_, ?_, i3⟩
        · unfold m_X4_settingBack_L7
          rw [e3]
          simp (disch := omega) only [xr, xck_t, xck_T, if_pos, if_neg, if_true, if_false, xbs, or_true, true_or, and_true, true_and]
          exact i1
        · unfold m_X9_follow_L25
          rw [e9, epr]
          simp (disch := omega) only [xr, xck_t, xck_T, if_pos, if_neg, if_true, if_false, xbs, or_true, true_or, and_true, true_and]
          exact i2
    · have u1 : u = -1 := by omega
      obtain ⟨a1, g1, i1, i2, i3⟩ := ih n m (s + 1) a g (by omega) (by omega) (by omega) (by omega) ha hg (fun x x0 x1 x2 x3 => by
        by_cases q : x = s
        · rw [q, hu] at x2
          omega
        · exact hx x x0 (by omega) x2 x3)
      refine ⟨a1, g1, ?_, ?_, i3⟩
      · unfold m_X4_settingBack_L7
        rw [e3]
        simp (disch := omega) only [xr, xck_t, xck_T, if_pos, if_neg, if_true, if_false, xbs, or_true, true_or, and_true, true_and]
        exact i1
      · unfold m_X9_follow_L25
        rw [e9]
        simp (disch := omega) only [xr, xck_t, xck_T, if_pos, if_neg, if_true, if_false, xbs, or_true, true_or, and_true, true_and]
        exact i2
/-- the way back, both -/
theorem p_follow {pr tr D M : Int → Int} (hp : zPr pr) (hM : zMd tr pr M) (hr : zDr 1048576 D) (hE : zEq D M) : ∀ (d n m : Nat) (w k : Int) (S T : xS), zFB S → S 20 = D → T 18 = M → (∀ u, 0 ≤ u → u < 148 → S 19 u = pr u ∧ pr u = 1 + 3 * T 15 u + T 16 u ∧ S 21 u = T 17 u ∧ (T 17 u = 0 ∨ T 17 u = 1) ∧ (tr u = 1 → T 17 u = 1)) → zSwt S T → (0 ≤ w ∧ w < 148) → M w < 1000000 → 0 ≤ k → k ≤ 148 → zsum (fun u => 1 - T 17 u) 148 ≤ d → zsum (fun u => 1 - T 17 u) 148 + k ≤ 148 → d < n → d < m →
    ∃ S1 T1, m_X4_followBack_L4 n w k S = some S1 ∧ m_X9_follow_L2 m w T = some T1 ∧ (∀ q, q ≠ 21 → q ≠ 22 → S1 q = S q) ∧ (∀ q, q ≠ 17 → q ≠ 20 → T1 q = T q) ∧ (∀ u, 0 ≤ u → u < 148 → S1 21 u = T1 17 u ∧ (T1 17 u = 0 ∨ T1 17 u = 1) ∧ (T 17 u = 1 → T1 17 u = 1)) ∧ zSwt S1 T1 := by
  have stop : ∀ (n m : Nat) (w k : Int) (S T : xS), (∀ u, 0 ≤ u → u < 148 → S 19 u = pr u ∧ pr u = 1 + 3 * T 15 u + T 16 u ∧ S 21 u = T 17 u ∧ (T 17 u = 0 ∨ T 17 u = 1) ∧ (tr u = 1 → T 17 u = 1)) → zSwt S T → (0 ≤ w ∧ w < 148) → 0 ≤ k → k ≤ 148 → T 17 w = 1 → ∃ S1 T1, m_X4_followBack_L4 (n + 1) w k S = some S1 ∧ m_X9_follow_L2 (m + 1) w T = some T1 ∧ (∀ q, q ≠ 21 → q ≠ 22 → S1 q = S q) ∧ (∀ q, q ≠ 17 → q ≠ 20 → T1 q = T q) ∧ (∀ u, 0 ≤ u → u < 148 → S1 21 u = T1 17 u ∧ (T1 17 u = 0 ∨ T1 17 u = 1) ∧ (T 17 u = 1 → T1 17 u = 1)) ∧ zSwt S1 T1 := by
    intro n m w k S T h hsw hw h0 h1 ht
    have hw1 := (h w hw.1 hw.2).2.2.1
    refine ⟨S, T, ?_, ?_, fun _ _ _ => rfl, fun _ _ _ => rfl, fun u u0 u1 => ⟨(h u u0 u1).2.2.1, (h u u0 u1).2.2.2.1, id⟩, hsw⟩
    · unfold m_X4_followBack_L4
      by_cases q : 148 ≤ k
      · simp (disch := omega) only [xr, xck_t, xck_T, if_pos, if_neg, if_true, if_false, xbs, or_true, true_or, and_true, true_and]
      · simp (disch := omega) only [xr, xck_t, xck_T, if_pos, if_neg, if_true, if_false, xbs, or_true, true_or, and_true, true_and]
    · unfold m_X9_follow_L2
      simp (disch := omega) only [xr, xck_t, xck_T, if_pos, if_neg, if_true, if_false, xbs, or_true, true_or, and_true, true_and]
  intro d
  induction d with
  | zero =>
    intro n m w k S T hF e20 e18 h hsw hw hfin h0 h1 hz hz2 l1 l2
    obtain ⟨n, rfl⟩ : ∃ j, n = j + 1 := ⟨n - 1, by omega⟩
    obtain ⟨m, rfl⟩ : ∃ j, m = j + 1 := ⟨m - 1, by omega⟩
    refine stop n m w k S T h hsw hw h0 h1 ?_
    rcases (h w hw.1 hw.2).2.2.2.1 with t | t
    · have := zsum_pos (fun u => 1 - T 17 u) 148 (fun j j0 j1 => by
        have := (h j j0 (by omega)).2.2.2.1
        omega) w hw.1 (by omega) (by omega)
      omega
    · exact t
  | succ d ih =>
    intro n m w k S T hF e20 e18 h hsw hw hfin h0 h1 hz hz2 l1 l2
    obtain ⟨n, rfl⟩ : ∃ j, n = j + 1 := ⟨n - 1, by omega⟩
    obtain ⟨m, rfl⟩ : ∃ j, m = j + 1 := ⟨m - 1, by omega⟩
    obtain ⟨x1, x2, x3, x4, x5⟩ := h w hw.1 hw.2
    rcases x4 with t | t
    · have hpos := zsum_pos (fun u => 1 - T 17 u) 148 (fun j j0 j1 => by
        have := (h j j0 (by omega)).2.2.2.1
        omega) w hw.1 (by omega) (by omega)
      obtain ⟨c1, s, s1, s2, s3⟩ := hM.2.2.1 w hw.1 hw.2 (fun q => by have := x5 q; omega) hfin
      have hc := zch_in c1
      have pw := hp w hw.1 hw.2
      have st := hM.2.2.2 w s c1 s1.1 s1.2 s2
      rw [← e20] at hr hE
      rw [← e18] at hE hfin s3 st
      obtain ⟨a, g, a1, a2, a3, a4, a5⟩ := p_back (S := xup S 21 w 1) (T := T) hp (by
          unfold zFB at hF ⊢
          rw [xup_q _ _ _ (by decide : (0 : Nat) ≠ 21), xup_q _ _ _ (by decide : (1 : Nat) ≠ 21)]
          exact hF) (by rw [xup_q _ _ _ (by decide : (20 : Nat) ≠ 21)]; exact hr) (by rw [xup_q _ _ _ (by decide : (20 : Nat) ≠ 21)]; exact hE) c1 (by rw [xup_q _ _ _ (by decide : (19 : Nat) ≠ 21)]; exact x1) t x2 hfin 4 2000 2000 1 (-1) 0 (by omega) (by omega) (by omega) (by omega) (by omega) (fun q => by omega) (fun x q0 q1 => by omega)
      have ha := a5 s s1.1 (by omega) s2 (by omega)
      obtain ⟨g1, g2, g3⟩ := a4 ha
      have w144 : w < 144 := c1.1.2
      have hF2 : zFB (xup (xup S 21 w 1) 22 w g) := by
        unfold zFB at hF ⊢
        rw [xup_q _ _ _ (by decide : (0 : Nat) ≠ 22), xup_q _ _ _ (by decide : (1 : Nat) ≠ 22), xup_q _ _ _ (by decide : (0 : Nat) ≠ 21), xup_q _ _ _ (by decide : (1 : Nat) ≠ 21)]
        exact hF
      have eb := p_before hF2 (s := g) c1 ⟨by omega, by omega⟩
      rw [← g2] at eb
      have ech : m_X9_channelOf w = some (zch w) := by
        rcases p_chOf (w := w) ⟨by omega, hw.2⟩ hw.1 with ⟨_, e, _⟩ | ⟨q, _⟩
        · exact e
        · exact absurd c1 q
      have esb : m_X4_settingBack w (xup S 21 w 1) = some g := by
        unfold m_X4_settingBack
        rw [a1, xbs]
      have e17 : ∀ u, xup (xup T 20 (zch w) g) 17 w 1 17 u = if u = w then 1 else T 17 u := fun u => by
        by_cases q : u = w
        · rw [if_pos q, q, xup_s]
        · rw [if_neg q, xup_i _ _ _ q, xup_q _ _ _ (by decide : (17 : Nat) ≠ 20)]
      have e21 : ∀ u, xup (xup S 21 w 1) 22 w g 21 u = if u = w then 1 else S 21 u := fun u => by
        rw [xup_q _ _ _ (by decide : (21 : Nat) ≠ 22)]
        by_cases q : u = w
        · rw [if_pos q, q, xup_s]
        · rw [if_neg q, xup_i _ _ _ q]
      have su := zsum_up (fun u => 1 - T 17 u) (fun u => 1 - xup (xup T 20 (zch w) g) 17 w 1 17 u) w 148 hw.1 (fun j hj => by rw [e17 j, if_neg hj])
      rw [if_pos (by omega)] at su
      simp only [xup_s] at su
      have o15 : xup (xup T 20 (zch w) g) 17 w 1 15 = T 15 := by
        rw [xup_q _ _ _ (by decide : (15 : Nat) ≠ 17), xup_q _ _ _ (by decide : (15 : Nat) ≠ 20)]
      have o16 : xup (xup T 20 (zch w) g) 17 w 1 16 = T 16 := by
        rw [xup_q _ _ _ (by decide : (16 : Nat) ≠ 17), xup_q _ _ _ (by decide : (16 : Nat) ≠ 20)]
      have o18 : xup (xup T 20 (zch w) g) 17 w 1 18 = T 18 := by
        rw [xup_q _ _ _ (by decide : (18 : Nat) ≠ 17), xup_q _ _ _ (by decide : (18 : Nat) ≠ 20)]
      have o19 : xup (xup S 21 w 1) 22 w g 19 = S 19 := by
        rw [xup_q _ _ _ (by decide : (19 : Nat) ≠ 22), xup_q _ _ _ (by decide : (19 : Nat) ≠ 21)]
      have o20 : xup (xup S 21 w 1) 22 w g 20 = S 20 := by
        rw [xup_q _ _ _ (by decide : (20 : Nat) ≠ 22), xup_q _ _ _ (by decide : (20 : Nat) ≠ 21)]
      obtain ⟨S1, T1, i1, i2, i3, i4, i5, i6⟩ := ih n m a (k + 1) (xup (xup S 21 w 1) 22 w g) (xup (xup T 20 (zch w) g) 17 w 1) hF2 (by rw [o20, e20]) (by rw [o18, e18]) (fun u u0 u1 => by
          obtain ⟨y1, y2, y3, y4, y5⟩ := h u u0 u1
          rw [o19, o15, o16, e17, e21]
          refine ⟨y1, y2, ?_⟩
          by_cases q : u = w
          · rw [if_pos q, if_pos q]
            exact ⟨rfl, Or.inr rfl, fun _ => rfl⟩
          · rw [if_neg q, if_neg q]
            exact ⟨y3, y4, y5⟩) (by
          refine ⟨fun p p0 p1 => ?_, fun c c0 c1 => ?_⟩
          · rw [xup_q _ _ _ (by decide : (23 : Nat) ≠ 22), xup_q _ _ _ (by decide : (23 : Nat) ≠ 21), xup_q _ _ _ (by decide : (19 : Nat) ≠ 17), xup_q _ _ _ (by decide : (19 : Nat) ≠ 20)]
            exact hsw.1 p p0 p1
          · rw [xup_q _ _ _ (by decide : (20 : Nat) ≠ 17)]
            by_cases q : c = zch w
            · rw [q, hc.2, xup_s, xup_s]
              exact ⟨rfl, by omega, by omega⟩
            · have q2 : 9 * (c / 8) + 1 + c % 8 ≠ w := fun z => q (by
                have := (zwi_ch (c := c) ⟨c0, c1⟩).2
                rw [z] at this
                exact this.symm)
              rw [xup_i _ _ _ q2, xup_i _ _ _ q, xup_q _ _ _ (by decide : (22 : Nat) ≠ 21)]
              exact hsw.2 c c0 c1) ⟨ha, a3.2⟩ (by rw [← e18]; omega) (by omega) (by omega) (by omega) (by omega) (by omega) (by omega)
      refine ⟨S1, T1, ?_, ?_, fun q q1 q2 => by rw [i3 q q1 q2, xup_q _ _ _ q2, xup_q _ _ _ q1], fun q q1 q2 => by rw [i4 q q1 q2, xup_q _ _ _ q1, xup_q _ _ _ q2], fun u u0 u1 => ?_, i6⟩
      · unfold m_X4_followBack_L4
        rw [esb]
        simp (disch := omega) only [xr, xck_t, xck_T, if_pos, if_neg, if_true, if_false, xbs, or_true, true_or, and_true, true_and, eb]
        exact i1
      · unfold m_X9_follow_L2
        rw [ech, xbs, a2]
        simp (disch := omega) only [xr, xck_t, xck_T, if_pos, if_neg, if_true, if_false, xbs, or_true, true_or, and_true, true_and]
        exact i2
      · obtain ⟨y1, y2, y3⟩ := i5 u u0 u1
        refine ⟨y1, y2, fun q => y3 ?_⟩
        rw [e17]
        by_cases z : u = w
        · rw [if_pos z]
        · rw [if_neg z]
          exact q
    · exact stop n m w k S T h hsw hw h0 h1 t
