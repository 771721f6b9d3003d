/-! a new object: the relation at the beginning -/
theorem p_m0 : ∀ (d n : Nat) (v : Int) (T : xS), 0 ≤ v → v + d = 34 → d < n → ∃ T1, m_X9_init_L205 n v T = some T1 ∧ (∀ q, q ≠ 11 → T1 q = T q) ∧ (∀ w, w < v → T1 11 w = T 11 w) ∧ (∀ w, v ≤ w → w < 34 → T1 11 w = -1) := by
  intro d
  induction d with
  | zero =>
    intro n v T h0 h1 h2
    obtain ⟨n, rfl⟩ : ∃ j, n = j + 1 := ⟨n - 1, by omega⟩
    refine ⟨T, ?_, fun _ _ => rfl, fun _ _ => rfl, fun w w0 w1 => by omega⟩
    unfold m_X9_init_L205
    simp (disch := omega) only [xr, xck_t, xck_T, if_pos, if_neg, if_true, if_false, xbs, or_true, true_or, and_true, true_and]
  | succ d ih =>
    intro n v T h0 h1 h2
    obtain ⟨n, rfl⟩ : ∃ j, n = j + 1 := ⟨n - 1, by omega⟩
    obtain ⟨T1, i1, i2, i3, i4⟩ := ih n (v + 1) (xup T 11 v (-1)) (by omega) (by omega) (by omega)
    refine ⟨T1, ?_, fun q hq => by rw [i2 q hq, xup_q _ _ _ hq], fun w hw => by rw [i3 w (by omega), xup_i _ _ _ (by omega)], fun w w0 w1 => ?_⟩
    · unfold m_X9_init_L205
      simp (disch := omega) only [xr, xck_t, xck_T, if_pos, if_neg, if_true, if_false, xbs, or_true, true_or, and_true, true_and]
      exact i1
    · by_cases q : w = v
      · rw [i3 w (by omega), q, xup_s]
      · exact i4 w (by omega) w1
theorem zgo_m1 (f : Int → Int) : ∀ n : Nat, zgo f n (-1) = (-1, 0) := by
  intro n
  induction n with
  | zero => rfl
  | succ n ih =>
    unfold zgo
    rw [if_neg (by omega)]
theorem zor_m1 (f : Int → Int) : zor f (-1) = -1 ∧ zlen f (-1) = 0 := by
  have e : zor f (-1) = -1 := by
    unfold zor
    rw [zgo_m1, if_neg (by simp only; omega), if_pos (by simp only; omega)]
  refine ⟨e, ?_⟩
  unfold zlen
  rw [e, if_pos (by omega)]
theorem zor_ch {f : Int → Int} (hf : ∀ c, 0 ≤ c → c < 128 → f c = 0) {w : Int} (hw : zisch w) : zor f w = -1 ∧ zlen f w = 0 := by
  have hc := (zch_in hw).1
  have b := (zb1_all (zch w).toNat (by omega)).2
  rw [Int.toNat_of_nonneg hc.1] at b
  have eg : zgo f 128 w = (-1, 1) := by
    show zgo f (127 + 1) w = _
    conv => lhs; unfold zgo
    rw [if_pos (show (0 ≤ w ∧ w < 144) ∧ ¬ w % 9 = 0 from hw), hf _ hc.1 hc.2, b, zgo_m1]
    rfl
  have e : zor f w = -1 := by
    unfold zor
    rw [eg, if_neg (by simp only; omega), if_pos (by simp only; omega)]
  refine ⟨e, ?_⟩
  unfold zlen
  rw [e, if_pos (by omega)]
theorem p_new : ∃ SF SY, m_X1_init = some SF ∧ m_X9_init = some SY ∧ zRel (xSX SF) SY := by
  obtain ⟨SF, f1, f2, f3⟩ := p_fabric
  obtain ⟨SY, y1, y2, y3, y4⟩ := p_m0 34 2000 0 xS0 (by omega) (by omega) (by omega)
  have t0 : ∀ q i, q ≠ 11 → SY q i = 0 := fun q i hq => by rw [y2 q hq]
  have s8 : ∀ k, 0 ≤ k → k < 34 → xSX SF 8 k = -1 := fun k k0 k1 => if_pos ⟨rfl, k0, k1⟩
  have s7 : ∀ c, 0 ≤ c → c < 10 → xSX SF 7 c = -1 := fun c c0 c1 => by
    show xfl (xfl xS0 7 10 (-1)) 8 34 (-1) 7 c = -1
    rw [xfl_q _ _ _ (by decide : (7 : Nat) ≠ 8)]
    exact if_pos ⟨rfl, c0, c1⟩
  have s29 : ∀ p, 0 ≤ p → p < 52 → xSX SF 29 p = -1 := fun p p0 p1 => if_pos ⟨rfl, p0, p1⟩
  have s33 : ∀ c, 0 ≤ c → c < 10 → xSX SF 33 c = -1 := fun c c0 c1 => if_pos ⟨rfl, c0, c1⟩
  have hr : zRng SY := ⟨fun t _ _ => by rw [t0 0 _ (by decide), t0 1 _ (by decide), t0 2 _ (by decide)]; omega, fun p _ _ => by rw [t0 3 _ (by decide)]; omega, fun c _ _ => by rw [t0 4 _ (by decide)]; omega⟩
  refine ⟨SF, SY, f1, ?_, f2.of rfl rfl, f3.of rfl rfl, ⟨rfl, ⟨Int.le_refl 0, (by decide : (0 : Int) < 148)⟩, fun _ _ _ => rfl⟩, ⟨⟨Int.le_refl 0, (by decide : (0 : Int) ≤ 10)⟩, t0 50 0 (by decide), fun c c0 c1 => ?_, fun k k0 k1 => ?_, fun c c0 c1 => ?_⟩, ⟨hr, fun t t0' t1 => ?_⟩, ⟨fun p p0 p1 => ?_, fun o o0 o1 => ?_⟩, ⟨?_, ?_, fun c c0 c1 => ?_⟩⟩
  · unfold m_X9_init
    rw [y1, xbs]
  · have : c < 0 := c1
    omega
  · rw [y4 k k0 k1, s8 k k0 k1]
    exact ⟨rfl, Or.inl rfl⟩
  · have c0 : 0 ≤ c := c0
    refine ⟨s7 c c0 c1, fun p p0 p1 => s8 _ (by omega) (by omega)⟩
  · refine ⟨?_, ?_, Or.inl (t0 5 t (by decide))⟩
    · show (0 : Int) = zenc SY t
      unfold zenc
      simp only [t0 0 _ (by decide), t0 1 _ (by decide), t0 2 _ (by decide), t0 3 _ (by decide), t0 4 _ (by decide)]
      omega
    · show (0 : Int) = SY 5 t
      rw [t0 5 _ (by decide)]
  · have b : zbp p (SY 3 p) = -1 := by
      rw [t0 3 _ (by decide)]
      have e := zp_all p.toNat (by omega) 0 (by omega)
      have z := (zp1_all (p / 3).toNat (by omega)).2
      rw [Int.toNat_of_nonneg p0] at e
      have e : zbp p 0 = zbp ((3 * (p.toNat / 3) : Nat) : Int) 0 := e
      rw [e, show p.toNat / 3 = (p / 3).toNat by omega]
      exact z
    rw [b, (zor_m1 _).1, (zor_m1 _).2, s29 p p0 (by omega)]
    exact ⟨rfl, rfl⟩
  · have hw : zisch (36 * o + 30) := by
      unfold zisch
      omega
    have z := zor_ch (f := SY 4) (fun c _ _ => t0 4 c (by decide)) hw
    rw [z.1, z.2, s29 _ (by omega) (by omega)]
    exact ⟨rfl, rfl⟩
  · rw [t0 51 _ (by decide)]
    omega
  · rw [t0 52 _ (by decide)]
    rfl
  · rw [s33 c c0 c1, t0 51 _ (by decide), if_neg (by omega)]
theorem p_cost {S T : xS} (h : zRel S T) : ∃ r, m_X8_cost S = some r ∧ m_X9_cost T = some r := by
  refine ⟨S 52 0, rfl, ?_⟩
  unfold m_X9_cost
  rw [h.2.2.2.2.2.2.2.1]
/-- the circuit's own calls and the whole relation -/
theorem zRel.circ {S T S1 T1 : xS} (h : zRel S T) (hC : zCirc S1 T1) (hS : ∀ q, q = 50 ∨ (4 ≤ q ∧ q ≤ 9) ∨ S1 q = S q) (hT : ∀ q, q = 50 ∨ (6 ≤ q ∧ q ≤ 11) ∨ T1 q = T q) : zRel S1 T1 := by
  obtain ⟨h1, h2, h3, h4, h5, h6, h7⟩ := h
  have a : ∀ q, q ≠ 50 → ¬ (4 ≤ q ∧ q ≤ 9) → S1 q = S q := fun q q1 q2 => by
    rcases hS q with x | x | x
    · exact absurd x q1
    · exact absurd x q2
    · exact x
  have b : ∀ q, q ≠ 50 → ¬ (6 ≤ q ∧ q ≤ 11) → T1 q = T q := fun q q1 q2 => by
    rcases hT q with x | x | x
    · exact absurd x q1
    · exact absurd x q2
    · exact x
  exact ⟨h1.of (a 0 (by decide) (by decide)) (a 1 (by decide) (by decide)), h2.of (a 2 (by decide) (by decide)) (a 3 (by decide) (by decide)), h3.of (a 25 (by decide) (by decide)) (a 53 (by decide) (by decide)) (a 54 (by decide) (by decide)), hC, h5.of (a 26 (by decide) (by decide)) (a 27 (by decide) (by decide)) (b 0 (by decide) (by decide)) (b 1 (by decide) (by decide)) (b 2 (by decide) (by decide)) (b 3 (by decide) (by decide)) (b 4 (by decide) (by decide)) (b 5 (by decide) (by decide)), h6.of (a 29 (by decide) (by decide)) (a 30 (by decide) (by decide)) (b 3 (by decide) (by decide)) (b 4 (by decide) (by decide)), h7.of (a 33 (by decide) (by decide)) (a 52 (by decide) (by decide)) (b 51 (by decide) (by decide)) (b 52 (by decide) (by decide)) (b 12 (by decide) (by decide))⟩
