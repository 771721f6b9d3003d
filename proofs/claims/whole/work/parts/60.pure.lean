/-! the pure half: tools -/
theorem xck_T {α : Type} {i : Decidable True} {t : Option α} : @xck α True i t = t := if_pos trivial
theorem xbs {α β : Type} (a : α) (f : α → Option β) : (some a).bind f = f a := rfl
theorem p_hasCell {S : xS} {p : Int} (hn : 0 ≤ S 50 0 ∧ S 50 0 ≤ 10) (hp : xr p) : m_X0_hasCell p S = some (if 0 ≤ p ∧ p < S 50 0 then 1 else 0) := by
  unfold m_X0_hasCell
  by_cases a : p < 0
  · simp (disch := omega) only [xr, xck_t, xck_T, if_pos, if_neg, if_true, if_false, xbs, or_true, true_or, and_true, true_and]
  · by_cases b : S 50 0 ≤ p
    · simp (disch := omega) only [xr, xck_t, xck_T, if_pos, if_neg, if_true, if_false, xbs, or_true, true_or, and_true, true_and]
    · simp (disch := omega) only [xr, xck_t, xck_T, if_pos, if_neg, if_true, if_false, xbs, or_true, true_or, and_true, true_and]
theorem p_isInput {p : Int} (hp : xr p) : m_X0_isInput p = some (if 10 ≤ p ∧ p ≤ 13 then 1 else 0) := by
  unfold m_X0_isInput
  by_cases a : p < 10
  · simp (disch := omega) only [xr, xck_t, xck_T, if_pos, if_neg, if_true, if_false, xbs, or_true, true_or, and_true, true_and]
  · by_cases b : 14 ≤ p
    · simp (disch := omega) only [xr, xck_t, xck_T, if_pos, if_neg, if_true, if_false, xbs, or_true, true_or, and_true, true_and]
    · simp (disch := omega) only [xr, xck_t, xck_T, if_pos, if_neg, if_true, if_false, xbs, or_true, true_or, and_true, true_and]
theorem p_in {p a b : Int} (hp : xr p) (ha : xr a) (hb : xr b) : m_X9_in p a b = some (if a ≤ p ∧ p ≤ b then 1 else 0) := by
  unfold m_X9_in
  by_cases c : p < a
  · simp (disch := omega) only [xr, xck_t, xck_T, if_pos, if_neg, if_true, if_false, xbs, or_true, true_or, and_true, true_and]
  · by_cases d : b < p
    · simp (disch := omega) only [xr, xck_t, xck_T, if_pos, if_neg, if_true, if_false, xbs, or_true, true_or, and_true, true_and]
    · simp (disch := omega) only [xr, xck_t, xck_T, if_pos, if_neg, if_true, if_false, xbs, or_true, true_or, and_true, true_and]
/-- what a source may be -/
def zsrc (n p : Int) : Prop := p = -1 ∨ (0 ≤ p ∧ p < n) ∨ (10 ≤ p ∧ p ≤ 13)
theorem p_isSource {T : xS} {p : Int} (hn : 0 ≤ T 50 0 ∧ T 50 0 ≤ 10) (hp : xr p) : (zsrc (T 50 0) p ∧ m_X9_isSource p T = some 1) ∨ (¬ zsrc (T 50 0) p ∧ m_X9_isSource p T = some 0) := by
  unfold m_X9_isSource zsrc
  by_cases a : p = -1
  · left
    exact ⟨Or.inl a, by simp (disch := omega) only [xr, xck_t, xck_T, if_pos, if_neg, if_true, if_false, xbs, or_true, true_or, and_true, true_and]⟩
  · rw [p_in hp ⟨by omega, by omega⟩ ⟨by omega, by omega⟩, p_in hp ⟨by omega, by omega⟩ ⟨by omega, by omega⟩]
    by_cases b : 0 ≤ p ∧ p < T 50 0
    · left
      exact ⟨by omega, by simp (disch := omega) only [xr, xck_t, xck_T, if_pos, if_neg, if_true, if_false, xbs, or_true, true_or, and_true, true_and]⟩
    · by_cases c : 10 ≤ p ∧ p ≤ 13
      · left
        exact ⟨by omega, by simp (disch := omega) only [xr, xck_t, xck_T, if_pos, if_neg, if_true, if_false, xbs, or_true, true_or, and_true, true_and]⟩
      · right
        exact ⟨by omega, by simp (disch := omega) only [xr, xck_t, xck_T, if_pos, if_neg, if_true, if_false, xbs, or_true, true_or, and_true, true_and]⟩
theorem p_setSource {S : xS} {k p : Int} (hn : 0 ≤ S 50 0 ∧ S 50 0 ≤ 10) (hp : xr p) (hk : 0 ≤ k ∧ k < 34) : (zsrc (S 50 0) p ∧ m_X0_setSource k p S = some (1, xup S 8 k p)) ∨ (¬ zsrc (S 50 0) p ∧ m_X0_setSource k p S = some (0, S)) := by
  unfold m_X0_setSource zsrc
  rw [p_hasCell hn hp, p_isInput hp]
  by_cases a : p = -1
  · left
    exact ⟨Or.inl a, by simp (disch := omega) only [xr, xck_t, xck_T, if_pos, if_neg, if_true, if_false, xbs, or_true, true_or, and_true, true_and]⟩
  · by_cases b : 0 ≤ p ∧ p < S 50 0
    · left
      exact ⟨by omega, by simp (disch := omega) only [xr, xck_t, xck_T, if_pos, if_neg, if_true, if_false, xbs, or_true, true_or, and_true, true_and]⟩
    · by_cases c : 10 ≤ p ∧ p ≤ 13
      · left
        exact ⟨by omega, by simp (disch := omega) only [xr, xck_t, xck_T, if_pos, if_neg, if_true, if_false, xbs, or_true, true_or, and_true, true_and]⟩
      · right
        exact ⟨by omega, by simp (disch := omega) only [xr, xck_t, xck_T, if_pos, if_neg, if_true, if_false, xbs, or_true, true_or, and_true, true_and]⟩
