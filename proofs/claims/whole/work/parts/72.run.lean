/-! run: the circuit's clock -/
def xval (S : xS) (k : Int) : Int := if S 8 k < 0 then 0 else S 9 (S 8 k)
def xtab (S : xS) (c : Int) : Int := xb_iand (xb_ishr (S 4 c) (xval S (c * 3 + 0) + 2 * xval S (c * 3 + (0 + 1)) + 4 * xval S (c * 3 + (0 + 1 + 1)))) 1
/-- the cells S of the class while a clock of the circuit goes on: sources and values are in range, inputs are there -/
def zRun (S : xS) (inp : Int) : Prop := (0 ≤ S 50 0 ∧ S 50 0 ≤ 10) ∧ (∀ k, 0 ≤ k → k < 34 → zsrc (S 50 0) (S 8 k)) ∧ (∀ c, 0 ≤ c → c < S 50 0 → S 9 c = 0 ∨ S 9 c = 1) ∧ (∀ i, 0 ≤ i → i < 4 → S 9 (10 + i) = xb_iand (xb_ishr inp i) 1)
theorem zRun.val {S : xS} {inp k : Int} (h : zRun S inp) (hk : 0 ≤ k ∧ k < 34) : xval S k = 0 ∨ xval S k = 1 := by
  obtain ⟨hn, hs, h9, hi⟩ := h
  have s := hs k hk.1 hk.2
  unfold zsrc at s
  unfold xval
  by_cases a : S 8 k < 0
  · rw [if_pos a]
    exact Or.inl rfl
  · rw [if_neg a]
    by_cases b : S 8 k < S 50 0
    · exact h9 _ (by omega) b
    · have e := hi (S 8 k - 10) (by omega) (by omega)
      rw [show 10 + (S 8 k - 10) = S 8 k by omega] at e
      rw [e]
      exact xb_and1 _
theorem p_valC {S : xS} {inp k : Int} (h : zRun S inp) (hk : 0 ≤ k ∧ k < 34) : m_X0_valueAt k S = some (xval S k) := by
  have s := h.2.1 k hk.1 hk.2
  have hn := h.1
  unfold zsrc at s
  unfold m_X0_valueAt xval
  by_cases a : S 8 k < 0
  · simp (disch := omega) only [xr, xck_t, xck_T, if_pos, if_neg, if_true, if_false, xbs, or_true, true_or, and_true, true_and]
  · simp (disch := omega) only [xr, xck_t, xck_T, if_pos, if_neg, if_true, if_false, xbs, or_true, true_or, and_true, true_and]
theorem s_t4 {S : xS} {c a v x y : Int} (hv : 0 ≤ v ∧ v < 3) (e : m_X0_valueAt (c * 3 + v) S = some x) (ho : xb_ior a (xb_ishl x v) = y) (n : Nat) : m_X0_tableGives_L4 c S (n + 1) a v = m_X0_tableGives_L4 c S n y (v + 1) := by
  conv => lhs; unfold m_X0_tableGives_L4
  simp (disch := omega) only [xr, xck_t, xck_T, if_pos, if_neg, if_true, if_false, xbs, or_true, true_or, and_true, true_and, e, ho]
theorem s_t4e {S : xS} {c a v : Int} (hv : v = 3) (n : Nat) : m_X0_tableGives_L4 c S (n + 1) a v = some a := by
  unfold m_X0_tableGives_L4
  simp (disch := omega) only [xr, xck_t, xck_T, if_pos, if_neg, if_true, if_false, xbs, or_true, true_or, and_true, true_and]
theorem p_tabC {S : xS} {inp c : Int} (h : zRun S inp) (hc : 0 ≤ c ∧ c < 10) : m_X0_tableGives c S = some (xtab S c) := by
  have a4 := h.val (k := c * 3 + 0) ⟨by omega, by omega⟩
  have b4 := h.val (k := c * 3 + (0 + 1)) ⟨by omega, by omega⟩
  have c4 := h.val (k := c * 3 + (0 + 1 + 1)) ⟨by omega, by omega⟩
  have x0 := p_valC h (k := c * 3 + 0) ⟨by omega, by omega⟩
  have x1 := p_valC h (k := c * 3 + (0 + 1)) ⟨by omega, by omega⟩
  have x2 := p_valC h (k := c * 3 + (0 + 1 + 1)) ⟨by omega, by omega⟩
  unfold m_X0_tableGives xtab
  generalize xval S (c * 3 + 0) = v0 at *
  generalize xval S (c * 3 + (0 + 1)) = v1 at *
  generalize xval S (c * 3 + (0 + 1 + 1)) = v2 at *
  have o0 := x_or (a := 0) (v := v0) (k := 0) (P := 1) rfl a4 (by decide) (by decide)
  have o1 := x_or (a := 0 + v0 * 1) (v := v1) (k := 0 + 1) (P := 2) rfl b4 (by decide) (by omega)
  have o2 := x_or (a := 0 + v0 * 1 + v1 * 2) (v := v2) (k := 0 + 1 + 1) (P := 4) rfl c4 (by decide) (by omega)
  rw [s_t4 (by decide) x0 o0 1999, s_t4 (by decide) x1 o1 1998, s_t4 (by decide) x2 o2 1997, s_t4e (v := 0 + 1 + 1 + 1) (by decide) 1996, xbs, show 0 + v0 * 1 + v1 * 2 + v2 * 4 = v0 + 2 * v1 + 4 * v2 by omega]
  simp (disch := omega) only [xr, xck_t, xck_T, if_pos, if_neg, if_true, if_false, xbs, or_true, true_or, and_true, true_and]
theorem s_k5 {T : xS} {c inp a v x y : Int} (hc : 0 ≤ c ∧ c < 10) (hv : 0 ≤ v ∧ v < 3) (e : m_X9_sourceValue (T 11 (3 * c + v)) inp T = some x) (ho : a + xb_ishl x v = y) (n : Nat) : m_X9_lookedUp_L5 c inp T (n + 1) a v = m_X9_lookedUp_L5 c inp T n y (v + 1) := by
  conv => lhs; unfold m_X9_lookedUp_L5
  simp (disch := omega) only [xr, xck_t, xck_T, if_pos, if_neg, if_true, if_false, xbs, or_true, true_or, and_true, true_and, e, ho]
theorem s_k5e {T : xS} {c inp a v : Int} (hv : v = 3) (n : Nat) : m_X9_lookedUp_L5 c inp T (n + 1) a v = some a := by
  unfold m_X9_lookedUp_L5
  simp (disch := omega) only [xr, xck_t, xck_T, if_pos, if_neg, if_true, if_false, xbs, or_true, true_or, and_true, true_and]
theorem p_luC {T : xS} {c inp v0 v1 v2 : Int} (hc : 0 ≤ c ∧ c < 10) (x0 : m_X9_sourceValue (T 11 (3 * c + 0)) inp T = some v0) (x1 : m_X9_sourceValue (T 11 (3 * c + (0 + 1))) inp T = some v1) (x2 : m_X9_sourceValue (T 11 (3 * c + (0 + 1 + 1))) inp T = some v2) (a4 : v0 = 0 ∨ v0 = 1) (b4 : v1 = 0 ∨ v1 = 1) (c4 : v2 = 0 ∨ v2 = 1) : m_X9_lookedUp c inp T = some (xb_iand (xb_ishr (T 6 c) (v0 + 2 * v1 + 4 * v2)) 1) := by
  have q0 := x_shl (v := v0) (k := 0) a4 (by decide)
  have q1 := x_shl (v := v1) (k := 0 + 1) b4 (by decide)
  have q2 := x_shl (v := v2) (k := 0 + 1 + 1) c4 (by decide)
  unfold m_X9_lookedUp
  rw [s_k5 hc (by decide) x0 rfl 1999, s_k5 hc (by decide) x1 rfl 1998, s_k5 hc (by decide) x2 rfl 1997, s_k5e (v := 0 + 1 + 1 + 1) (by decide) 1996, xbs, q0, q1, q2]
  have e : (0 : Int) + v0 * 2 ^ (0 : Int).toNat + v1 * 2 ^ ((0 : Int) + 1).toNat + v2 * 2 ^ ((0 : Int) + 1 + 1).toNat = v0 + 2 * v1 + 4 * v2 := by
    show 0 + v0 * 1 + v1 * 2 + v2 * 4 = _
    omega
  rw [e]
  simp (disch := omega) only [xr, xck_t, xck_T, if_pos, if_neg, if_true, if_false, xbs, or_true, true_or, and_true, true_and]
/-- what a source gives in the model -/
def yval (T : xS) (inp s : Int) : Int := if s < 0 then 0 else if s < 10 then T 23 s else xb_iand (xb_ishr inp (s - 10)) 1
theorem p_svC {T : xS} {inp n s : Int} (hn : n ≤ 10) (hs : zsrc n s) : m_X9_sourceValue s inp T = some (yval T inp s) := by
  unfold zsrc at hs
  unfold m_X9_sourceValue yval
  by_cases a : s < 0
  · simp (disch := omega) only [xr, xck_t, xck_T, if_pos, if_neg, if_true, if_false, xbs, or_true, true_or, and_true, true_and]
  · by_cases b : s < 10
    · simp (disch := omega) only [xr, xck_t, xck_T, if_pos, if_neg, if_true, if_false, xbs, or_true, true_or, and_true, true_and]
    · simp (disch := omega) only [xr, xck_t, xck_T, if_pos, if_neg, if_true, if_false, xbs, or_true, true_or, and_true, true_and]
theorem yval_01 {T : xS} {inp n s : Int} (hs : zsrc n s) (h : ∀ d, 0 ≤ d → d < n → T 23 d = 0 ∨ T 23 d = 1) : yval T inp s = 0 ∨ yval T inp s = 1 := by
  unfold zsrc at hs
  unfold yval
  by_cases a : s < 0
  · rw [if_pos a]
    exact Or.inl rfl
  · rw [if_neg a]
    by_cases b : s < 10
    · rw [if_pos b]
      exact h s (by omega) (by omega)
    · rw [if_neg b]
      exact xb_and1 _
theorem yx_val {S T : xS} {inp k : Int} (h : zRun S inp) (hk : 0 ≤ k ∧ k < 34) (hg : 0 ≤ S 8 k → S 8 k < S 50 0 → T 23 (S 8 k) = S 9 (S 8 k)) : yval T inp (S 8 k) = xval S k := by
  have s := h.2.1 k hk.1 hk.2
  have hn := h.1
  unfold zsrc at s
  unfold yval xval
  by_cases a : S 8 k < 0
  · rw [if_pos a, if_pos a]
  · rw [if_neg a, if_neg a]
    by_cases b : S 8 k < 10
    · rw [if_pos b]
      exact hg (by omega) (by omega)
    · rw [if_neg b]
      have e := h.2.2.2 (S 8 k - 10) (by omega) (by omega)
      rw [show 10 + (S 8 k - 10) = S 8 k by omega] at e
      rw [e]
/-- a cell looked up in the model -/
theorem p_lookC {S T : xS} {inp c : Int} (h : zRun S inp) (hc : 0 ≤ c ∧ c < S 50 0) (e11 : ∀ k, 0 ≤ k → k < 34 → T 11 k = S 8 k) (e6 : T 6 c = S 4 c) (h01 : ∀ d, 0 ≤ d → d < S 50 0 → T 23 d = 0 ∨ T 23 d = 1) : (∃ r, m_X9_lookedUp c inp T = some r ∧ (r = 0 ∨ r = 1)) ∧ ((∀ p, 0 ≤ p → p < 3 → 0 ≤ S 8 (c * 3 + p) → S 8 (c * 3 + p) < S 50 0 → T 23 (S 8 (c * 3 + p)) = S 9 (S 8 (c * 3 + p))) → m_X9_lookedUp c inp T = some (xtab S c)) := by
  have hn := h.1
  have f : ∀ p, 0 ≤ p → p < 3 → T 11 (3 * c + p) = S 8 (c * 3 + p) := fun p p0 p1 => by
    rw [e11 _ (by omega) (by omega), show 3 * c + p = c * 3 + p by omega]
  have s0 := h.2.1 (c * 3 + 0) (by omega) (by omega)
  have s1 := h.2.1 (c * 3 + (0 + 1)) (by omega) (by omega)
  have s2 := h.2.1 (c * 3 + (0 + 1 + 1)) (by omega) (by omega)
  have x0 : m_X9_sourceValue (T 11 (3 * c + 0)) inp T = some (yval T inp (S 8 (c * 3 + 0))) := by
    rw [f _ (by decide) (by decide)]
    exact p_svC (by omega) s0
  have x1 : m_X9_sourceValue (T 11 (3 * c + (0 + 1))) inp T = some (yval T inp (S 8 (c * 3 + (0 + 1)))) := by
    rw [f _ (by decide) (by decide)]
    exact p_svC (by omega) s1
  have x2 : m_X9_sourceValue (T 11 (3 * c + (0 + 1 + 1))) inp T = some (yval T inp (S 8 (c * 3 + (0 + 1 + 1)))) := by
    rw [f _ (by decide) (by decide)]
    exact p_svC (by omega) s2
  have e := p_luC ⟨hc.1, by omega⟩ x0 x1 x2 (yval_01 s0 h01) (yval_01 s1 h01) (yval_01 s2 h01)
  refine ⟨⟨_, e, xb_and1 _⟩, fun hg => ?_⟩
  rw [e, e6]
  unfold xtab
  rw [yx_val h ⟨by omega, by omega⟩ (hg 0 (by decide) (by decide)), yx_val h ⟨by omega, by omega⟩ (hg (0 + 1) (by decide) (by decide)), yx_val h ⟨by omega, by omega⟩ (hg (0 + 1 + 1) (by decide) (by decide))]
/-- the inputs are laid -/
theorem p_inpC (inp : Int) : ∀ (d n : Nat) (v : Int) (S : xS), 0 ≤ v → v + d = 4 → d < n → (∀ i, 0 ≤ i → i < v → S 9 (10 + i) = xb_iand (xb_ishr inp i) 1) → ∃ S1, m_X0_step_L2 inp n v S = some S1 ∧ (∀ q, q ≠ 9 → S1 q = S q) ∧ (∀ c, c < 10 → S1 9 c = S 9 c) ∧ (∀ i, 0 ≤ i → i < 4 → S1 9 (10 + i) = xb_iand (xb_ishr inp i) 1) := by
  intro d
  induction d with
  | zero =>
    intro n v S h0 h1 h2 hi
    obtain ⟨n, rfl⟩ : ∃ j, n = j + 1 := ⟨n - 1, by omega⟩
    refine ⟨S, ?_, fun _ _ => rfl, fun _ _ => rfl, fun i i0 i1 => hi i i0 (by omega)⟩
    unfold m_X0_step_L2
    simp (disch := omega) only [xr, xck_t, xck_T, if_pos, if_neg, if_true, if_false, xbs, or_true, true_or, and_true, true_and]
  | succ d ih =>
    intro n v S h0 h1 h2 hi
    obtain ⟨n, rfl⟩ : ∃ j, n = j + 1 := ⟨n - 1, by omega⟩
    obtain ⟨S1, a1, a2, a3, a4⟩ := ih n (v + 1) (xup S 9 (10 + v) (xb_iand (xb_ishr inp v) 1)) (by omega) (by omega) (by omega) (fun i i0 i1 => by
      by_cases e : i = v
      · rw [e, xup_s]
      · rw [xup_i _ _ _ (by omega)]
        exact hi i i0 (by omega))
    refine ⟨S1, ?_, fun q hq => by rw [a2 q hq, xup_q _ _ _ hq], fun c hc => by rw [a3 c hc, xup_i _ _ _ (by omega)], a4⟩
    unfold m_X0_step_L2
    simp (disch := omega) only [xr, xck_t, xck_T, if_pos, if_neg, if_true, if_false, xbs, or_true, true_or, and_true, true_and]
    exact a1
/-- a value written leaves what doesn't look at it -/
theorem xtab_up {S : xS} {c d x : Int} (h : ∀ p, 0 ≤ p → p < 3 → S 8 (c * 3 + p) ≠ d) : xtab (xup S 9 d x) c = xtab S c := by
  have f : ∀ p, 0 ≤ p → p < 3 → xval (xup S 9 d x) (c * 3 + p) = xval S (c * 3 + p) := fun p p0 p1 => by
    unfold xval
    rw [xup_q _ _ _ (by decide : (8 : Nat) ≠ 9), xup_i _ _ _ (h p p0 p1)]
  unfold xtab
  rw [f 0 (by decide) (by decide), f (0 + 1) (by decide) (by decide), f (0 + 1 + 1) (by decide) (by decide), xup_q _ _ _ (by decide : (4 : Nat) ≠ 9)]
theorem xup_same (S : xS) (q : Nat) (i : Int) : xup S q i (S q i) = S := by
  funext a b
  unfold xup
  by_cases e : a = q ∧ b = i
  · rw [if_pos e, e.1, e.2]
  · rw [if_neg e]
/-- the values in their order -/
theorem p_ordC (inp : Int) : ∀ (d n : Nat) (v : Int) (S : xS), zRun S inp → zOrd S → (S 51 0 ≤ 10) → 0 ≤ v → v + d = S 51 0 → d < n → (∀ i, 0 ≤ i → i < v → S 9 (S 11 i) = xtab S (S 11 i)) → ∃ S1, m_X0_step_L29 n v S = some S1 ∧ (∀ q, q ≠ 9 → S1 q = S q) ∧ zRun S1 inp ∧ (∀ c, 0 ≤ c → c < S 50 0 → S 5 c = 1 → S1 9 c = S 9 c) ∧ (∀ i, 0 ≤ i → i < S 51 0 → S1 9 (S 11 i) = xtab S1 (S 11 i)) := by
  intro d
  induction d with
  | zero =>
    intro n v S hr ho h51 h0 h1 h2 hi
    obtain ⟨n, rfl⟩ : ∃ j, n = j + 1 := ⟨n - 1, by omega⟩
    refine ⟨S, ?_, fun _ _ => rfl, hr, fun _ _ _ _ => rfl, fun i i0 i1 => hi i i0 (by omega)⟩
    unfold m_X0_step_L29
    simp (disch := omega) only [xr, xck_t, xck_T, if_pos, if_neg, if_true, if_false, xbs, or_true, true_or, and_true, true_and]
  | succ d ih =>
    intro n v S hr ho h51 h0 h1 h2 hi
    obtain ⟨n, rfl⟩ : ∃ j, n = j + 1 := ⟨n - 1, by omega⟩
    have hn := hr.1
    obtain ⟨o1, o2, o3, o4⟩ := id ho
    obtain ⟨c1, c2, c3⟩ := o1 v h0 (by omega)
    have et := p_tabC hr (c := S 11 v) ⟨c1.1, by omega⟩
    have key : ∀ i, 0 ≤ i → i < v + 1 → xup S 9 (S 11 v) (xtab S (S 11 v)) 9 (S 11 i) = xtab (xup S 9 (S 11 v) (xtab S (S 11 v))) (S 11 i) := by
      by_cases e : ∃ i, 0 ≤ i ∧ i < v ∧ S 11 i = S 11 v
      · obtain ⟨i, i0, i1, i2⟩ := e
        have q := hi i i0 i1
        rw [i2] at q
        rw [← q, xup_same]
        intro j j0 j1
        by_cases jj : j = v
        · rw [jj]
          exact q
        · exact hi j j0 (by omega)
      · have ne : ∀ i, 0 ≤ i → i < v → S 11 i ≠ S 11 v := fun i i0 i1 i2 => e ⟨i, i0, i1, i2⟩
        have nsrc : ∀ i, 0 ≤ i → i < v + 1 → ∀ p, 0 ≤ p → p < 3 → S 8 (S 11 i * 3 + p) ≠ S 11 v := fun i i0 i1 p p0 p1 z => by
          rcases o2 i p i0 (by omega) p0 p1 (by omega) (by omega) with y | ⟨j, j0, j1, j2⟩
          · rw [z] at y
            omega
          · rw [z] at j2
            exact ne j j0 (by omega) j2
        intro i i0 i1
        rw [xtab_up (nsrc i i0 i1)]
        by_cases ii : i = v
        · rw [ii, xup_s]
        · rw [xup_i _ _ _ (ne i i0 (by omega))]
          exact hi i i0 (by omega)
    have hr2 : zRun (xup S 9 (S 11 v) (xtab S (S 11 v))) inp := by
      obtain ⟨r1, r2, r3, r4⟩ := hr
      refine ⟨?_, ?_, ?_, ?_⟩
      · simp (disch := omega) only [xr, xck_t, xck_T, if_pos, if_neg, if_true, if_false, xbs, or_true, true_or, and_true, true_and, xup_q]
        exact r1
      · simp (disch := omega) only [xr, xck_t, xck_T, if_pos, if_neg, if_true, if_false, xbs, or_true, true_or, and_true, true_and, xup_q]
        exact r2
      · intro c d0 d1
        have d1 : c < S 50 0 := by simpa (disch := omega) only [xup_q] using d1
        by_cases e : c = S 11 v
        · rw [e, xup_s]
          exact xb_and1 _
        · rw [xup_i _ _ _ e]
          exact r3 c d0 d1
      · intro i i0 i1
        rw [xup_i _ _ _ (by omega)]
        exact r4 i i0 i1
    have ho2 : zOrd (xup S 9 (S 11 v) (xtab S (S 11 v))) := by
      unfold zOrd at ho ⊢
      rw [xup_q _ _ _ (by decide : (51 : Nat) ≠ 9), xup_q _ _ _ (by decide : (11 : Nat) ≠ 9), xup_q _ _ _ (by decide : (50 : Nat) ≠ 9), xup_q _ _ _ (by decide : (5 : Nat) ≠ 9), xup_q _ _ _ (by decide : (12 : Nat) ≠ 9), xup_q _ _ _ (by decide : (8 : Nat) ≠ 9)]
      exact ho
    obtain ⟨S1, a1, a2, a3, a4, a5⟩ := ih n (v + 1) _ hr2 ho2 (by rw [xup_q _ _ _ (by decide : (51 : Nat) ≠ 9)]; exact h51) (by omega) (by rw [xup_q _ _ _ (by decide : (51 : Nat) ≠ 9)]; omega) (by omega) (fun i i0 i1 => by
      rw [xup_q _ _ _ (by decide : (11 : Nat) ≠ 9)]
      exact key i i0 i1)
    rw [xup_q _ _ _ (by decide : (50 : Nat) ≠ 9), xup_q _ _ _ (by decide : (5 : Nat) ≠ 9)] at a4
    rw [xup_q _ _ _ (by decide : (51 : Nat) ≠ 9), xup_q _ _ _ (by decide : (11 : Nat) ≠ 9)] at a5
    refine ⟨S1, ?_, fun q hq => by rw [a2 q hq, xup_q _ _ _ hq], a3, fun c d0 d1 d2 => ?_, a5⟩
    · unfold m_X0_step_L29
      simp (disch := omega) only [xr, xck_t, xck_T, if_pos, if_neg, if_true, if_false, xbs, or_true, true_or, and_true, true_and, et]
      exact a1
    · rw [a4 c d0 d1 d2, xup_i _ _ _ (fun e => by rw [e] at d2; omega)]
