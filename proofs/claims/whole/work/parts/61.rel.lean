/-! what holds between the class's cells S and the model's T -/
/-- the circuit -/
def zCirc (S T : xS) : Prop := (0 ≤ S 50 0 ∧ S 50 0 ≤ 10) ∧ T 50 0 = S 50 0 ∧
  (∀ c, 0 ≤ c → c < S 50 0 → T 6 c = S 4 c ∧ (0 ≤ S 4 c ∧ S 4 c ≤ 255) ∧ T 7 c = S 5 c ∧ (S 5 c = 0 ∨ S 5 c = 1) ∧ T 8 c = S 6 c ∧ (S 6 c = 0 ∨ S 6 c = 1) ∧ T 10 c = S 7 c ∧ (-1 ≤ S 7 c ∧ S 7 c ≤ 15) ∧ (S 9 c = 0 ∨ S 9 c = 1) ∧ (S 5 c = 1 → T 9 c = S 9 c)) ∧
  (∀ k, 0 ≤ k → k < 34 → T 11 k = S 8 k ∧ zsrc (S 50 0) (S 8 k)) ∧
  (∀ c, S 50 0 ≤ c → c < 10 → S 7 c = -1 ∧ ∀ p, 0 ≤ p → p < 3 → S 8 (c * 3 + p) = -1)
/-- what was built last -/
def zBuilt (S T : xS) : Prop := (0 ≤ T 51 0 ∧ T 51 0 ≤ 10) ∧ T 52 0 = S 52 0 ∧ (∀ c, 0 ≤ c → c < 10 → S 33 c = if c < T 51 0 then T 12 c else -1)
theorem zCirc.of {S T S1 T1 : xS} (h : zCirc S T) (e50 : S1 50 = S 50) (e4 : S1 4 = S 4) (e5 : S1 5 = S 5) (e6 : S1 6 = S 6) (e7 : S1 7 = S 7) (e8 : S1 8 = S 8) (e9 : S1 9 = S 9) (f50 : T1 50 = T 50) (f6 : T1 6 = T 6) (f7 : T1 7 = T 7) (f8 : T1 8 = T 8) (f9 : T1 9 = T 9) (f10 : T1 10 = T 10) (f11 : T1 11 = T 11) : zCirc S1 T1 := by
  unfold zCirc at h ⊢
  rw [e50, e4, e5, e6, e7, e8, e9, f50, f6, f7, f8, f9, f10, f11]
  exact h
theorem zBuilt.of {S T S1 T1 : xS} (h : zBuilt S T) (e33 : S1 33 = S 33) (e52 : S1 52 = S 52) (f51 : T1 51 = T 51) (f52 : T1 52 = T 52) (f12 : T1 12 = T 12) : zBuilt S1 T1 := by
  unfold zBuilt at h ⊢
  rw [e33, e52, f51, f52, f12]
  exact h
/-- a part of the relation that the circuit's own calls don't touch -/
def zKeep (Rest : xS → xS → Prop) : Prop := ∀ S T S1 T1 : xS, (∀ q, q = 50 ∨ (4 ≤ q ∧ q ≤ 9) ∨ S1 q = S q) → (∀ q, q = 50 ∨ (6 ≤ q ∧ q ≤ 11) ∨ T1 q = T q) → Rest S T → Rest S1 T1
theorem p_iand255 (x : Int) : 0 ≤ xb_iand x 255 ∧ xb_iand x 255 ≤ 255 := by
  obtain ⟨j, hj, e⟩ := pk_andE (xi x) (m := xi 255) 8 (by decide)
  unfold xb_iand
  rw [e, nI_toInt (by omega)]
  omega
theorem p_cell {S T : xS} {p1 p2 p3 : Int} (h : zCirc S T) (h2 : p2 = 0 ∨ p2 = 1) (h3 : p3 = 0 ∨ p3 = 1) : ∃ (r : Int) (S1 T1 : xS), m_X8_cell p1 p2 p3 S = some (r, S1) ∧ m_X9_cell p1 p2 p3 T = some (r, T1) ∧ zCirc S1 T1 ∧ (∀ q, q = 50 ∨ (4 ≤ q ∧ q ≤ 9) ∨ S1 q = S q) ∧ (∀ q, q = 50 ∨ (6 ≤ q ∧ q ≤ 11) ∨ T1 q = T q) := by
  obtain ⟨hn, e50, hc, hs, h7⟩ := h
  unfold m_X8_cell m_X0_addCell m_X9_cell
  rw [e50]
  by_cases a : S 50 0 = 10
  · refine ⟨-1, S, T, ?_, ?_, ⟨hn, e50, hc, hs, h7⟩, fun q => Or.inr (Or.inr rfl), fun q => Or.inr (Or.inr rfl)⟩
    · simp (disch := omega) only [xr, xck_t, xck_T, if_pos, if_neg, if_true, if_false, xbs, or_true, true_or, and_true, true_and]
    · simp (disch := omega) only [xr, xck_t, xck_T, if_pos, if_neg, if_true, if_false, xbs, or_true, true_or, and_true, true_and]
  · have hb := p_iand255 p1
    have e1 : (if p3 = 0 then some (0 : Int) else some 1) = some p3 := by
      rcases h3 with rfl | rfl <;> simp (disch := omega) only [xr, xck_t, xck_T, if_pos, if_neg, if_true, if_false, xbs, or_true, true_or, and_true, true_and]
    have e2 : (if p3 = 0 then (0 : Int) else 1) = p3 := by
      rcases h3 with rfl | rfl <;> simp (disch := omega) only [xr, xck_t, xck_T, if_pos, if_neg, if_true, if_false, xbs, or_true, true_or, and_true, true_and]
    refine ⟨S 50 0, xup (xup (xup (xup (xup S 50 0 (S 50 0 + 1)) 4 (S 50 0) (xb_iand p1 255)) 5 (S 50 0) p2) 6 (S 50 0) p3) 9 (S 50 0) (if p2 = 0 then 0 else p3), xup (xup (xup (xup (xup (xup T 6 (S 50 0) (xb_iand p1 255)) 7 (S 50 0) p2) 8 (S 50 0) p3) 9 (S 50 0) p3) 10 (S 50 0) (-1)) 50 0 (S 50 0 + 1), ?_, ?_, ?_, ?_, ?_⟩
    · rcases h2 with rfl | rfl <;> simp (disch := omega) only [xr, xck_t, xck_T, if_pos, if_neg, if_true, if_false, xbs, or_true, true_or, and_true, true_and, e1, xup_s]
    · simp (disch := omega) only [xr, xck_t, xck_T, if_pos, if_neg, if_true, if_false, xbs, or_true, true_or, and_true, true_and, e1]
      rw [show S 50 0 + 1 - 1 = S 50 0 by omega]
    · refine ⟨?_, ?_, ?_, ?_, ?_⟩
      · simp (disch := omega) only [xr, xck_t, xck_T, if_pos, if_neg, if_true, if_false, xbs, or_true, true_or, and_true, true_and, xup_s, xup_q]
        omega
      · simp (disch := omega) only [xr, xck_t, xck_T, if_pos, if_neg, if_true, if_false, xbs, or_true, true_or, and_true, true_and, xup_s, xup_q]
      · intro c h0 h1
        have h1 : c < S 50 0 + 1 := by
          simpa (disch := omega) only [xup_s, xup_q] using h1
        by_cases hcc : c = S 50 0
        · have h7c := (h7 c (by omega) (by omega)).1
          subst hcc
          simp (disch := omega) only [xr, xck_t, xck_T, if_pos, if_neg, if_true, if_false, xbs, or_true, true_or, and_true, true_and, xup_s, xup_q, xup_i, h7c]
          refine ⟨hb, h2, h3, by omega, ?_, ?_⟩
          · rcases h2 with rfl | rfl
            · exact Or.inl (if_pos rfl)
            · rw [if_neg (by omega)]
              exact h3
          · intro h
            rw [if_neg (by omega)]
        · simp (disch := omega) only [xr, xck_t, xck_T, if_pos, if_neg, if_true, if_false, xbs, or_true, true_or, and_true, true_and, xup_s, xup_q, xup_i]
          exact hc c h0 (by omega)
      · intro k h0 h1
        simp (disch := omega) only [xr, xck_t, xck_T, if_pos, if_neg, if_true, if_false, xbs, or_true, true_or, and_true, true_and, xup_s, xup_q, xup_i]
        refine ⟨(hs k h0 h1).1, ?_⟩
        have := (hs k h0 h1).2
        unfold zsrc at this ⊢
        omega
      · intro c h0 h1
        have h0 : S 50 0 + 1 ≤ c := by
          simpa (disch := omega) only [xup_s, xup_q] using h0
        simp (disch := omega) only [xr, xck_t, xck_T, if_pos, if_neg, if_true, if_false, xbs, or_true, true_or, and_true, true_and, xup_s, xup_q, xup_i]
        exact h7 c (by omega) h1
    · intro q
      by_cases h50 : q = 50
      · exact Or.inl h50
      · by_cases h49 : 4 ≤ q ∧ q ≤ 9
        · exact Or.inr (Or.inl h49)
        · refine Or.inr (Or.inr ?_)
          simp (disch := omega) only [xr, xck_t, xck_T, if_pos, if_neg, if_true, if_false, xbs, or_true, true_or, and_true, true_and, xup_q]
    · intro q
      by_cases h50 : q = 50
      · exact Or.inl h50
      · by_cases h49 : 6 ≤ q ∧ q ≤ 11
        · exact Or.inr (Or.inl h49)
        · refine Or.inr (Or.inr ?_)
          simp (disch := omega) only [xr, xck_t, xck_T, if_pos, if_neg, if_true, if_false, xbs, or_true, true_or, and_true, true_and, xup_q]
theorem p_connect {S T : xS} {p1 p2 p3 : Int} (h : zCirc S T) (h1 : xr p1) (h2 : xr p2) (h3 : xr p3) : ∃ (r : Int) (S1 T1 : xS), m_X8_connect p1 p2 p3 S = some (r, S1) ∧ m_X9_connect p1 p2 p3 T = some (r, T1) ∧ zCirc S1 T1 ∧ (∀ q, q = 50 ∨ (4 ≤ q ∧ q ≤ 9) ∨ S1 q = S q) ∧ (∀ q, q = 50 ∨ (6 ≤ q ∧ q ≤ 11) ∨ T1 q = T q) := by
  obtain ⟨hn, e50, hc, hs, h7⟩ := id h
  have hnT : 0 ≤ T 50 0 ∧ T 50 0 ≤ 10 := by omega
  have same : ∃ (r : Int) (S1 T1 : xS), (some ((0 : Int), S) = some (r, S1)) ∧ (some ((0 : Int), T) = some (r, T1)) ∧ zCirc S1 T1 ∧ (∀ q, q = 50 ∨ (4 ≤ q ∧ q ≤ 9) ∨ S1 q = S q) ∧ (∀ q, q = 50 ∨ (6 ≤ q ∧ q ≤ 11) ∨ T1 q = T q) := ⟨0, S, T, rfl, rfl, h, fun q => Or.inr (Or.inr rfl), fun q => Or.inr (Or.inr rfl)⟩
  unfold m_X8_connect m_X9_connect
  rw [p_hasCell hn h1, p_in h1 ⟨by omega, by omega⟩ ⟨by omega, by omega⟩, p_in h2 ⟨by omega, by omega⟩ ⟨by omega, by omega⟩]
  by_cases a : 0 ≤ p1 ∧ p1 < S 50 0
  · by_cases b : 0 ≤ p2 ∧ p2 < 3
    · rcases p_setSource (S := S) (k := p1 * 3 + p2) hn h3 (by omega) with ⟨z, e⟩ | ⟨z, e⟩
      · rcases p_isSource (T := T) hnT h3 with ⟨z2, e2⟩ | ⟨z2, e2⟩
        · refine ⟨1, xup S 8 (p1 * 3 + p2) p3, xup T 11 (3 * p1 + p2) p3, ?_, ?_, ?_, ?_, ?_⟩
          · simp (disch := omega) only [xr, xck_t, xck_T, if_pos, if_neg, if_true, if_false, xbs, or_true, true_or, and_true, true_and, e]
          · simp (disch := omega) only [xr, xck_t, xck_T, if_pos, if_neg, if_true, if_false, xbs, or_true, true_or, and_true, true_and, e2]
          · rw [show 3 * p1 + p2 = p1 * 3 + p2 by omega]
            refine ⟨?_, ?_, ?_, ?_, ?_⟩
            · simp (disch := omega) only [xr, xck_t, xck_T, if_pos, if_neg, if_true, if_false, xbs, or_true, true_or, and_true, true_and, xup_q]
              exact hn
            · simp (disch := omega) only [xr, xck_t, xck_T, if_pos, if_neg, if_true, if_false, xbs, or_true, true_or, and_true, true_and, xup_q]
              exact e50
            · simp (disch := omega) only [xr, xck_t, xck_T, if_pos, if_neg, if_true, if_false, xbs, or_true, true_or, and_true, true_and, xup_q]
              exact hc
            · intro k h0 h1
              by_cases hk : k = p1 * 3 + p2
              · subst hk
                simp (disch := omega) only [xr, xck_t, xck_T, if_pos, if_neg, if_true, if_false, xbs, or_true, true_or, and_true, true_and, xup_s, xup_q]
                exact z
              · simp (disch := omega) only [xr, xck_t, xck_T, if_pos, if_neg, if_true, if_false, xbs, or_true, true_or, and_true, true_and, xup_i, xup_q]
                exact hs k h0 h1
            · simp (disch := omega) only [xr, xck_t, xck_T, if_pos, if_neg, if_true, if_false, xbs, or_true, true_or, and_true, true_and, xup_q]
              intro c c0 c1
              refine ⟨(h7 c c0 c1).1, fun p q0 q1 => ?_⟩
              simp (disch := omega) only [xr, xck_t, xck_T, if_pos, if_neg, if_true, if_false, xbs, or_true, true_or, and_true, true_and, xup_i]
              exact (h7 c c0 c1).2 p q0 q1
          · intro q
            by_cases h49 : 4 ≤ q ∧ q ≤ 9
            · exact Or.inr (Or.inl h49)
            · refine Or.inr (Or.inr ?_)
              simp (disch := omega) only [xr, xck_t, xck_T, if_pos, if_neg, if_true, if_false, xbs, or_true, true_or, and_true, true_and, xup_q]
          · intro q
            by_cases h49 : 6 ≤ q ∧ q ≤ 11
            · exact Or.inr (Or.inl h49)
            · refine Or.inr (Or.inr ?_)
              simp (disch := omega) only [xr, xck_t, xck_T, if_pos, if_neg, if_true, if_false, xbs, or_true, true_or, and_true, true_and, xup_q]
        · exact absurd (by rw [e50]; exact z) z2
      · rcases p_isSource (T := T) hnT h3 with ⟨z2, e2⟩ | ⟨z2, e2⟩
        · exact absurd (by rw [e50] at z2; exact z2) z
        · simp (disch := omega) only [xr, xck_t, xck_T, if_pos, if_neg, if_true, if_false, xbs, or_true, true_or, and_true, true_and, e, e2]
          exact same
    · by_cases b2 : p2 < 0
      · simp (disch := omega) only [xr, xck_t, xck_T, if_pos, if_neg, if_true, if_false, xbs, or_true, true_or, and_true, true_and]
        exact same
      · simp (disch := omega) only [xr, xck_t, xck_T, if_pos, if_neg, if_true, if_false, xbs, or_true, true_or, and_true, true_and]
        exact same
  · simp (disch := omega) only [xr, xck_t, xck_T, if_pos, if_neg, if_true, if_false, xbs, or_true, true_or, and_true, true_and]
    exact same
theorem p_output {S T : xS} {p1 p2 : Int} (h : zCirc S T) (h1 : xr p1) (h2 : xr p2) : ∃ (r : Int) (S1 T1 : xS), m_X8_output p1 p2 S = some (r, S1) ∧ m_X9_output p1 p2 T = some (r, T1) ∧ zCirc S1 T1 ∧ (∀ q, q = 50 ∨ (4 ≤ q ∧ q ≤ 9) ∨ S1 q = S q) ∧ (∀ q, q = 50 ∨ (6 ≤ q ∧ q ≤ 11) ∨ T1 q = T q) := by
  obtain ⟨hn, e50, hc, hs, h7⟩ := id h
  have hnT : 0 ≤ T 50 0 ∧ T 50 0 ≤ 10 := by omega
  have same : ∃ (r : Int) (S1 T1 : xS), (some ((0 : Int), S) = some (r, S1)) ∧ (some ((0 : Int), T) = some (r, T1)) ∧ zCirc S1 T1 ∧ (∀ q, q = 50 ∨ (4 ≤ q ∧ q ≤ 9) ∨ S1 q = S q) ∧ (∀ q, q = 50 ∨ (6 ≤ q ∧ q ≤ 11) ∨ T1 q = T q) := ⟨0, S, T, rfl, rfl, h, fun q => Or.inr (Or.inr rfl), fun q => Or.inr (Or.inr rfl)⟩
  unfold m_X8_output m_X9_output
  rw [p_in h1 ⟨by omega, by omega⟩ ⟨by omega, by omega⟩]
  by_cases a : 0 ≤ p1 ∧ p1 < 4
  · rcases p_setSource (S := S) (k := 30 + p1) hn h2 (by omega) with ⟨z, e⟩ | ⟨z, e⟩
    · rcases p_isSource (T := T) hnT h2 with ⟨z2, e2⟩ | ⟨z2, e2⟩
      · refine ⟨1, xup S 8 (30 + p1) p2, xup T 11 (30 + p1) p2, ?_, ?_, ?_, ?_, ?_⟩
        · simp (disch := omega) only [xr, xck_t, xck_T, if_pos, if_neg, if_true, if_false, xbs, or_true, true_or, and_true, true_and, e]
        · simp (disch := omega) only [xr, xck_t, xck_T, if_pos, if_neg, if_true, if_false, xbs, or_true, true_or, and_true, true_and, e2]
        · refine ⟨?_, ?_, ?_, ?_, ?_⟩
          · simp (disch := omega) only [xr, xck_t, xck_T, if_pos, if_neg, if_true, if_false, xbs, or_true, true_or, and_true, true_and, xup_q]
            exact hn
          · simp (disch := omega) only [xr, xck_t, xck_T, if_pos, if_neg, if_true, if_false, xbs, or_true, true_or, and_true, true_and, xup_q]
            exact e50
          · simp (disch := omega) only [xr, xck_t, xck_T, if_pos, if_neg, if_true, if_false, xbs, or_true, true_or, and_true, true_and, xup_q]
            exact hc
          · intro k h0 h1
            by_cases hk : k = 30 + p1
            · subst hk
              simp (disch := omega) only [xr, xck_t, xck_T, if_pos, if_neg, if_true, if_false, xbs, or_true, true_or, and_true, true_and, xup_s, xup_q]
              exact z
            · simp (disch := omega) only [xr, xck_t, xck_T, if_pos, if_neg, if_true, if_false, xbs, or_true, true_or, and_true, true_and, xup_i, xup_q]
              exact hs k h0 h1
          · simp (disch := omega) only [xr, xck_t, xck_T, if_pos, if_neg, if_true, if_false, xbs, or_true, true_or, and_true, true_and, xup_q]
            intro c c0 c1
            refine ⟨(h7 c c0 c1).1, fun p q0 q1 => ?_⟩
            simp (disch := omega) only [xr, xck_t, xck_T, if_pos, if_neg, if_true, if_false, xbs, or_true, true_or, and_true, true_and, xup_i]
            exact (h7 c c0 c1).2 p q0 q1
        · intro q
          by_cases h49 : 4 ≤ q ∧ q ≤ 9
          · exact Or.inr (Or.inl h49)
          · refine Or.inr (Or.inr ?_)
            simp (disch := omega) only [xr, xck_t, xck_T, if_pos, if_neg, if_true, if_false, xbs, or_true, true_or, and_true, true_and, xup_q]
        · intro q
          by_cases h49 : 6 ≤ q ∧ q ≤ 11
          · exact Or.inr (Or.inl h49)
          · refine Or.inr (Or.inr ?_)
            simp (disch := omega) only [xr, xck_t, xck_T, if_pos, if_neg, if_true, if_false, xbs, or_true, true_or, and_true, true_and, xup_q]
      · exact absurd (by rw [e50]; exact z) z2
    · rcases p_isSource (T := T) hnT h2 with ⟨z2, e2⟩ | ⟨z2, e2⟩
      · exact absurd (by rw [e50] at z2; exact z2) z
      · simp (disch := omega) only [xr, xck_t, xck_T, if_pos, if_neg, if_true, if_false, xbs, or_true, true_or, and_true, true_and, e, e2]
        exact same
  · by_cases b2 : p1 < 0
    · simp (disch := omega) only [xr, xck_t, xck_T, if_pos, if_neg, if_true, if_false, xbs, or_true, true_or, and_true, true_and]
      exact same
    · simp (disch := omega) only [xr, xck_t, xck_T, if_pos, if_neg, if_true, if_false, xbs, or_true, true_or, and_true, true_and]
      exact same
theorem p_fixloop {S T : xS} {p1 p2 : Int} (h : zCirc S T) (h1 : 0 ≤ p1 ∧ p1 < S 50 0) (h2 : -1 ≤ p2 ∧ p2 ≤ 15) : ∀ (d m m2 : Nat) (v : Int), 0 ≤ v → v ≤ S 50 0 → S 50 0 - v = (d : Int) → d < m → d < m2 →
    (m_X0_setFixed_L23 p1 p2 S m v = some (.inl ()) ∧ m_X9_fix_L28 p1 p2 T m2 v = some (.inl ())) ∨ (m_X0_setFixed_L23 p1 p2 S m v = some (.inr (0, S)) ∧ m_X9_fix_L28 p1 p2 T m2 v = some (.inr (0, T))) := by
  obtain ⟨hn, e50, hc, hs, h7⟩ := id h
  intro d
  induction d with
  | zero =>
    intro m m2 v h0 hv hd hm hm2
    obtain ⟨m, rfl⟩ : ∃ k, m = k + 1 := ⟨m - 1, by omega⟩
    obtain ⟨m2, rfl⟩ : ∃ k, m2 = k + 1 := ⟨m2 - 1, by omega⟩
    left
    unfold m_X0_setFixed_L23 m_X9_fix_L28
    rw [e50]
    constructor
    · simp (disch := omega) only [xr, xck_t, xck_T, if_pos, if_neg, if_true, if_false, xbs, or_true, true_or, and_true, true_and]
    · simp (disch := omega) only [xr, xck_t, xck_T, if_pos, if_neg, if_true, if_false, xbs, or_true, true_or, and_true, true_and]
  | succ d ih =>
    intro m m2 v h0 hv hd hm hm2
    obtain ⟨m, rfl⟩ : ∃ k, m = k + 1 := ⟨m - 1, by omega⟩
    obtain ⟨m2, rfl⟩ : ∃ k, m2 = k + 1 := ⟨m2 - 1, by omega⟩
    have hcv := hc v h0 (by omega)
    have i := ih m m2 (v + 1) (by omega) (by omega) (by omega) (by omega) (by omega)
    unfold m_X0_setFixed_L23 m_X9_fix_L28
    rw [e50, hcv.2.2.2.2.2.2.1]
    have h7v := hcv.2.2.2.2.2.2.2.1
    by_cases a : p2 = -1
    · left
      have iX : m_X0_setFixed_L23 p1 p2 S m (v + 1) = some (.inl ()) := by
        rcases i with i | i
        · exact i.1
        · have i2 := i.2
          obtain ⟨m2, rfl⟩ : ∃ k, m2 = k + 1 := ⟨m2 - 1, by omega⟩
          unfold m_X9_fix_L28 at i2
          rw [e50] at i2
          by_cases hb : S 50 0 ≤ v + 1
          · simp (disch := omega) only [xr, xck_t, if_pos, if_neg] at i2
            cases i2
          · simp (disch := omega) only [xr, xck_t, if_pos, if_neg] at i2
            cases i2
      constructor
      · simp (disch := omega) only [xr, xck_t, xck_T, if_pos, if_neg, if_true, if_false, xbs, or_true, true_or, and_true, true_and, iX]
      · simp (disch := omega) only [xr, xck_t, xck_T, if_pos, if_neg, if_true, if_false, xbs, or_true, true_or, and_true, true_and]
    · by_cases b : v = p1
      · simp (disch := omega) only [xr, xck_t, xck_T, if_pos, if_neg, if_true, if_false, xbs, or_true, true_or, and_true, true_and]
        exact i
      · by_cases c : S 7 v = p2
        · right
          constructor
          · simp (disch := omega) only [xr, xck_t, xck_T, if_pos, if_neg, if_true, if_false, xbs, or_true, true_or, and_true, true_and]
          · simp (disch := omega) only [xr, xck_t, xck_T, if_pos, if_neg, if_true, if_false, xbs, or_true, true_or, and_true, true_and]
        · simp (disch := omega) only [xr, xck_t, xck_T, if_pos, if_neg, if_true, if_false, xbs, or_true, true_or, and_true, true_and]
          exact i
theorem p_fix {S T : xS} {p1 p2 : Int} (h : zCirc S T) (h1 : xr p1) (h2 : xr p2) : ∃ (r : Int) (S1 T1 : xS), m_X8_fix p1 p2 S = some (r, S1) ∧ m_X9_fix p1 p2 T = some (r, T1) ∧ zCirc S1 T1 ∧ (∀ q, q = 50 ∨ (4 ≤ q ∧ q ≤ 9) ∨ S1 q = S q) ∧ (∀ q, q = 50 ∨ (6 ≤ q ∧ q ≤ 11) ∨ T1 q = T q) := by
  obtain ⟨hn, e50, hc, hs, h7⟩ := id h
  have same : ∃ (r : Int) (S1 T1 : xS), (some ((0 : Int), S) = some (r, S1)) ∧ (some ((0 : Int), T) = some (r, T1)) ∧ zCirc S1 T1 ∧ (∀ q, q = 50 ∨ (4 ≤ q ∧ q ≤ 9) ∨ S1 q = S q) ∧ (∀ q, q = 50 ∨ (6 ≤ q ∧ q ≤ 11) ∨ T1 q = T q) := ⟨0, S, T, rfl, rfl, h, fun q => Or.inr (Or.inr rfl), fun q => Or.inr (Or.inr rfl)⟩
  unfold m_X8_fix m_X9_fix m_X0_setFixed
  rw [p_hasCell hn h1, p_in h1 ⟨by omega, by omega⟩ ⟨by omega, by omega⟩, p_in h2 ⟨by omega, by omega⟩ ⟨by omega, by omega⟩]
  by_cases a : 0 ≤ p1 ∧ p1 < S 50 0
  · by_cases b : -1 ≤ p2 ∧ p2 ≤ 15
    · rcases p_fixloop h a b (S 50 0).toNat 2000 2000 0 (by omega) (by omega) (by omega) (by omega) (by omega) with ⟨e1, e2⟩ | ⟨e1, e2⟩
      · refine ⟨1, xup S 7 p1 p2, xup T 10 p1 p2, ?_, ?_, ?_, ?_, ?_⟩
        · simp (disch := omega) only [xr, xck_t, xck_T, if_pos, if_neg, if_true, if_false, xbs, or_true, true_or, and_true, true_and, e1]
        · simp (disch := omega) only [xr, xck_t, xck_T, if_pos, if_neg, if_true, if_false, xbs, or_true, true_or, and_true, true_and, e2]
        · refine ⟨?_, ?_, ?_, ?_, ?_⟩
          · simp (disch := omega) only [xr, xck_t, xck_T, if_pos, if_neg, if_true, if_false, xbs, or_true, true_or, and_true, true_and, xup_q]
            exact hn
          · simp (disch := omega) only [xr, xck_t, xck_T, if_pos, if_neg, if_true, if_false, xbs, or_true, true_or, and_true, true_and, xup_q]
            exact e50
          · intro c h0 h1
            have h1 : c < S 50 0 := by simpa (disch := omega) only [xup_q] using h1
            have hcc := hc c h0 h1
            by_cases hk : c = p1
            · subst hk
              simp (disch := omega) only [xr, xck_t, xck_T, if_pos, if_neg, if_true, if_false, xbs, or_true, true_or, and_true, true_and, xup_s, xup_q]
              obtain ⟨a1, a2, a3, a4, a5, a6, a7, a8, a9, a10⟩ := hcc
              exact ⟨a1, a2, a3, a4, a5, a6, b, a9, a10⟩
            · simp (disch := omega) only [xr, xck_t, xck_T, if_pos, if_neg, if_true, if_false, xbs, or_true, true_or, and_true, true_and, xup_i, xup_q]
              exact hcc
          · simp (disch := omega) only [xr, xck_t, xck_T, if_pos, if_neg, if_true, if_false, xbs, or_true, true_or, and_true, true_and, xup_q]
            exact hs
          · intro c h0 h1
            have h0 : S 50 0 ≤ c := by simpa (disch := omega) only [xup_q] using h0
            simp (disch := omega) only [xr, xck_t, xck_T, if_pos, if_neg, if_true, if_false, xbs, or_true, true_or, and_true, true_and, xup_i, xup_q]
            exact h7 c h0 h1
        · intro q
          by_cases h49 : 4 ≤ q ∧ q ≤ 9
          · exact Or.inr (Or.inl h49)
          · refine Or.inr (Or.inr ?_)
            simp (disch := omega) only [xr, xck_t, xck_T, if_pos, if_neg, if_true, if_false, xbs, or_true, true_or, and_true, true_and, xup_q]
        · intro q
          by_cases h49 : 6 ≤ q ∧ q ≤ 11
          · exact Or.inr (Or.inl h49)
          · refine Or.inr (Or.inr ?_)
            simp (disch := omega) only [xr, xck_t, xck_T, if_pos, if_neg, if_true, if_false, xbs, or_true, true_or, and_true, true_and, xup_q]
      · simp (disch := omega) only [xr, xck_t, xck_T, if_pos, if_neg, if_true, if_false, xbs, or_true, true_or, and_true, true_and, e1, e2]
        exact same
    · by_cases b2 : p2 < -1
      · simp (disch := omega) only [xr, xck_t, xck_T, if_pos, if_neg, if_true, if_false, xbs, or_true, true_or, and_true, true_and]
        exact same
      · simp (disch := omega) only [xr, xck_t, xck_T, if_pos, if_neg, if_true, if_false, xbs, or_true, true_or, and_true, true_and]
        exact same
  · simp (disch := omega) only [xr, xck_t, xck_T, if_pos, if_neg, if_true, if_false, xbs, or_true, true_or, and_true, true_and]
    exact same
theorem p_tileOf {S T : xS} {p1 : Int} (h : zBuilt S T) (h1 : xr p1) : ∃ r : Int, m_X8_tileOf p1 S = some r ∧ m_X9_tileOf p1 T = some r := by
  obtain ⟨hb, e52, h33⟩ := h
  unfold m_X8_tileOf m_X9_tileOf
  rw [p_in h1 ⟨by omega, by omega⟩ ⟨by omega, by omega⟩]
  by_cases a : 0 ≤ p1 ∧ p1 < 10
  · have e := h33 p1 a.1 a.2
    refine ⟨S 33 p1, ?_, ?_⟩
    · simp (disch := omega) only [xr, xck_t, xck_T, if_pos, if_neg, if_true, if_false, xbs, or_true, true_or, and_true, true_and]
    · rw [e]
      by_cases b : p1 < T 51 0
      · simp (disch := omega) only [xr, xck_t, xck_T, if_pos, if_neg, if_true, if_false, xbs, or_true, true_or, and_true, true_and]
      · simp (disch := omega) only [xr, xck_t, xck_T, if_pos, if_neg, if_true, if_false, xbs, or_true, true_or, and_true, true_and]
  · refine ⟨-1, ?_, ?_⟩
    · by_cases b : p1 < 0
      · simp (disch := omega) only [xr, xck_t, xck_T, if_pos, if_neg, if_true, if_false, xbs, or_true, true_or, and_true, true_and]
      · simp (disch := omega) only [xr, xck_t, xck_T, if_pos, if_neg, if_true, if_false, xbs, or_true, true_or, and_true, true_and]
    · simp (disch := omega) only [xr, xck_t, xck_T, if_pos, if_neg, if_true, if_false, xbs, or_true, true_or, and_true, true_and]
