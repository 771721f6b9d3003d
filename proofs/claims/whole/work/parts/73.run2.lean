/-! run: the model's sweeps come to the same values -/
/-- V: the class's cells behind its ordered walk; T: the model's cells that don't change; k: so many of the order are right -/
def zSw (V T T1 : xS) (k c : Int) : Prop := (∀ q, q ≠ 23 → T1 q = T q) ∧ (∀ d, 0 ≤ d → d < V 50 0 → T1 23 d = 0 ∨ T1 23 d = 1) ∧ (∀ d, 0 ≤ d → d < V 50 0 → V 5 d = 1 → T1 23 d = V 9 d) ∧ (∀ j, 0 ≤ j → j < k → j < V 51 0 → T1 23 (V 11 j) = V 9 (V 11 j)) ∧ (∀ j, 0 ≤ j → j ≤ k → j < V 51 0 → V 11 j < c → T1 23 (V 11 j) = V 9 (V 11 j))
/-- what is the same on both sides -/
def zSame (V T : xS) : Prop := T 50 0 = V 50 0 ∧ (∀ c, 0 ≤ c → c < V 50 0 → T 6 c = V 4 c ∧ T 7 c = V 5 c ∧ (V 5 c = 0 ∨ V 5 c = 1) ∧ (V 5 c = 1 → T 9 c = V 9 c)) ∧ (∀ k, 0 ≤ k → k < 34 → T 11 k = V 8 k)
theorem p_sw1 {V T : xS} {inp : Int} (hr : zRun V inp) (ho : zOrd V) (hx : ∀ i, 0 ≤ i → i < V 51 0 → V 9 (V 11 i) = xtab V (V 11 i)) (hs : zSame V T) (k q : Int) : ∀ (d n : Nat) (c : Int) (T1 : xS), zSw V T T1 k c → 0 ≤ c → c + d = V 50 0 → d < n → ∃ T2, m_X9_run_L61 inp q n c T1 = some T2 ∧ zSw V T T2 k (V 50 0) := by
  intro d
  induction d with
  | zero =>
    intro n c T1 h h0 h1 h2
    obtain ⟨n, rfl⟩ : ∃ j, n = j + 1 := ⟨n - 1, by omega⟩
    have hn := hr.1
    have e50 : T1 50 0 = V 50 0 := by rw [h.1 50 (by decide), hs.1]
    refine ⟨T1, ?_, ?_⟩
    · unfold m_X9_run_L61
      rw [e50]
      simp (disch := omega) only [xr, xck_t, xck_T, if_pos, if_neg, if_true, if_false, xbs, or_true, true_or, and_true, true_and]
    · have e : c = V 50 0 := by omega
      rw [e] at h
      exact h
  | succ d ih =>
    intro n c T1 h h0 h1 h2
    obtain ⟨n, rfl⟩ : ∃ j, n = j + 1 := ⟨n - 1, by omega⟩
    have hn := hr.1
    obtain ⟨t1, t2, t3, t4, t5⟩ := id h
    have hc : 0 ≤ c ∧ c < V 50 0 := by omega
    have e50 : T1 50 0 = V 50 0 := by rw [t1 50 (by decide), hs.1]
    obtain ⟨s1, s2, s3, s4⟩ := hs.2.1 c hc.1 hc.2
    have e7 : T1 7 c = V 5 c := by rw [t1 7 (by decide), s2]
    have lk := p_lookC (T := T1) hr hc (fun k k0 k1 => by rw [t1 11 (by decide)]; exact hs.2.2 k k0 k1) (by rw [t1 6 (by decide)]; exact s1) t2
    have next : ∀ x : Int, (x = 0 ∨ x = 1) → (V 5 c = 1 → x = V 9 c) → (∀ j, 0 ≤ j → j ≤ k → j < V 51 0 → V 11 j = c → x = V 9 c) → zSw V T (xup T1 23 c x) k (c + 1) := fun x x1 x2 x3 => by
      refine ⟨fun q hq => by rw [xup_q _ _ _ hq]; exact t1 q hq, fun e e0 e1 => ?_, fun e e0 e1 e2 => ?_, fun j j0 j1 j2 => ?_, fun j j0 j1 j2 j3 => ?_⟩
      · by_cases z : e = c
        · rw [z, xup_s]
          exact x1
        · rw [xup_i _ _ _ z]
          exact t2 e e0 e1
      · by_cases z : e = c
        · rw [z, xup_s]
          exact x2 (by rw [← z]; exact e2)
        · rw [xup_i _ _ _ z]
          exact t3 e e0 e1 e2
      · by_cases z : V 11 j = c
        · rw [z, xup_s]
          exact x3 j j0 (by omega) j2 z
        · rw [xup_i _ _ _ z]
          exact t4 j j0 j1 j2
      · by_cases z : V 11 j = c
        · rw [z, xup_s]
          exact x3 j j0 j1 j2 z
        · rw [xup_i _ _ _ z]
          exact t5 j j0 j1 j2 (by omega)
    rcases s3 with z | z
    · obtain ⟨⟨r, r1, r2⟩, lk2⟩ := lk
      have good : ∀ j, 0 ≤ j → j ≤ k → j < V 51 0 → V 11 j = c → r = V 9 c := fun j j0 j1 j2 j3 => by
        have g := lk2 (fun p p0 p1 y0 y1 => by
          rcases ho.2.1 j p j0 j2 p0 p1 (by rw [j3]; exact y0) (by rw [j3]; exact y1) with w | ⟨i, i0, i1, i2⟩
          · rw [j3] at w
            exact t3 _ y0 y1 w
          · rw [j3] at i2
            rw [← i2]
            exact t4 i i0 (by omega) (by omega))
        rw [r1] at g
        have g2 := Option.some.inj g
        have g3 := hx j j0 j2
        rw [j3] at g3
        rw [g2, g3]
      obtain ⟨T2, i1, i2⟩ := ih n (c + 1) _ (next r r2 (fun w => by omega) good) (by omega) (by omega) (by omega)
      refine ⟨T2, ?_, i2⟩
      unfold m_X9_run_L61
      rw [e50, e7]
      simp (disch := omega) only [xr, xck_t, xck_T, if_pos, if_neg, if_true, if_false, xbs, or_true, true_or, and_true, true_and, r1]
      exact i1
    · have e9 : T1 9 c = V 9 c := by rw [t1 9 (by decide)]; exact s4 z
      obtain ⟨T2, i1, i2⟩ := ih n (c + 1) _ (next (V 9 c) (hr.2.2.1 c hc.1 hc.2) (fun _ => rfl) (fun _ _ _ _ _ => rfl)) (by omega) (by omega) (by omega)
      refine ⟨T2, ?_, i2⟩
      unfold m_X9_run_L61
      rw [e50, e7]
      simp (disch := omega) only [xr, xck_t, xck_T, if_pos, if_neg, if_true, if_false, xbs, or_true, true_or, and_true, true_and]
      rw [e9]
      exact i1
theorem p_sw2 {V T : xS} {inp : Int} (hr : zRun V inp) (ho : zOrd V) (hx : ∀ i, 0 ≤ i → i < V 51 0 → V 9 (V 11 i) = xtab V (V 11 i)) (hs : zSame V T) : ∀ (d n : Nat) (v : Int) (T1 : xS), zSw V T T1 v 0 → 0 ≤ v → v + d = 10 → d < n → ∃ T2, m_X9_run_L53 inp n v T1 = some T2 ∧ zSw V T T2 10 0 := by
  intro d
  induction d with
  | zero =>
    intro n v T1 h h0 h1 h2
    obtain ⟨n, rfl⟩ : ∃ j, n = j + 1 := ⟨n - 1, by omega⟩
    refine ⟨T1, ?_, ?_⟩
    · unfold m_X9_run_L53
      simp (disch := omega) only [xr, xck_t, xck_T, if_pos, if_neg, if_true, if_false, xbs, or_true, true_or, and_true, true_and]
    · have e : v = 10 := by omega
      rw [e] at h
      exact h
  | succ d ih =>
    intro n v T1 h h0 h1 h2
    obtain ⟨n, rfl⟩ : ∃ j, n = j + 1 := ⟨n - 1, by omega⟩
    obtain ⟨T2, a1, a2⟩ := p_sw1 hr ho hx hs v v (V 50 0).toNat 2000 0 T1 h (by omega) (by have := hr.1; omega) (by have := hr.1; omega)
    obtain ⟨b1, b2, b3, b4, b5⟩ := a2
    obtain ⟨T3, i1, i2⟩ := ih n (v + 1) T2 ⟨b1, b2, b3, fun j j0 j1 j2 => b5 j j0 (by omega) j2 (ho.1 j j0 j2).1.2, fun j j0 j1 j2 j3 => by have := (ho.1 j j0 j2).1.1; omega⟩ (by omega) (by omega) (by omega)
    refine ⟨T3, ?_, i2⟩
    unfold m_X9_run_L53
    rw [a1, xbs]
    simp (disch := omega) only [xr, xck_t, xck_T, if_pos, if_neg, if_true, if_false, xbs, or_true, true_or, and_true, true_and]
    exact i1
/-- the beginning of the sweeps -/
theorem p_sw0 {V T : xS} {inp : Int} (hr : zRun V inp) (hs : zSame V T) : ∀ (d n : Nat) (c : Int) (T1 : xS), 0 ≤ c → c + d = V 50 0 → d < n → (∀ q, q ≠ 23 → T1 q = T q) → (∀ e, 0 ≤ e → e < c → T1 23 e = if V 5 e = 0 then 0 else V 9 e) → ∃ T2, m_X9_run_L12 inp n c T1 = some T2 ∧ (∀ q, q ≠ 23 → T2 q = T q) ∧ (∀ e, 0 ≤ e → e < V 50 0 → T2 23 e = if V 5 e = 0 then 0 else V 9 e) := by
  intro d
  induction d with
  | zero =>
    intro n c T1 h0 h1 h2 hT he
    obtain ⟨n, rfl⟩ : ∃ j, n = j + 1 := ⟨n - 1, by omega⟩
    have hn := hr.1
    have e50 : T1 50 0 = V 50 0 := by rw [hT 50 (by decide), hs.1]
    refine ⟨T1, ?_, hT, fun e e0 e1 => he e e0 (by omega)⟩
    unfold m_X9_run_L12
    rw [e50]
    simp (disch := omega) only [xr, xck_t, xck_T, if_pos, if_neg, if_true, if_false, xbs, or_true, true_or, and_true, true_and]
  | succ d ih =>
    intro n c T1 h0 h1 h2 hT he
    obtain ⟨n, rfl⟩ : ∃ j, n = j + 1 := ⟨n - 1, by omega⟩
    have hn := hr.1
    have e50 : T1 50 0 = V 50 0 := by rw [hT 50 (by decide), hs.1]
    obtain ⟨s1, s2, s3, s4⟩ := hs.2.1 c h0 (by omega)
    have e7 : T1 7 c = V 5 c := by rw [hT 7 (by decide), s2]
    obtain ⟨T2, i1, i2, i3⟩ := ih n (c + 1) (xup T1 23 c (if V 5 c = 0 then 0 else V 9 c)) (by omega) (by omega) (by omega) (fun q hq => by rw [xup_q _ _ _ hq]; exact hT q hq) (fun e e0 e1 => by
      by_cases z : e = c
      · rw [z, xup_s]
      · rw [xup_i _ _ _ z]
        exact he e e0 (by omega))
    refine ⟨T2, ?_, i2, i3⟩
    unfold m_X9_run_L12
    rw [e50, e7]
    rcases s3 with z | z
    · rw [if_pos z] at i1
      simp (disch := omega) only [xr, xck_t, xck_T, if_pos, if_neg, if_true, if_false, xbs, or_true, true_or, and_true, true_and]
      exact i1
    · have e9 : T1 9 c = V 9 c := by rw [hT 9 (by decide)]; exact s4 z
      rw [if_neg (by omega)] at i1
      simp (disch := omega) only [xr, xck_t, xck_T, if_pos, if_neg, if_true, if_false, xbs, or_true, true_or, and_true, true_and]
      rw [e9]
      exact i1
theorem s_65 {S : xS} {a v x y : Int} (hv : 0 ≤ v ∧ v < 4) (e : m_X0_valueAt (30 + v) S = some x) (ho : xb_ior a (xb_ishl x v) = y) (n : Nat) : m_X0_step_L65 S (n + 1) a v = m_X0_step_L65 S n y (v + 1) := by
  conv => lhs; unfold m_X0_step_L65
  simp (disch := omega) only [xr, xck_t, xck_T, if_pos, if_neg, if_true, if_false, xbs, or_true, true_or, and_true, true_and, e, ho]
theorem s_65e {S : xS} {a v : Int} (hv : v = 4) (n : Nat) : m_X0_step_L65 S (n + 1) a v = some a := by
  unfold m_X0_step_L65
  simp (disch := omega) only [xr, xck_t, xck_T, if_pos, if_neg, if_true, if_false, xbs, or_true, true_or, and_true, true_and]
theorem s_115 {T : xS} {inp a v x y : Int} (hv : 0 ≤ v ∧ v < 4) (e : m_X9_sourceValue (T 11 (30 + v)) inp T = some x) (ho : a + xb_ishl x v = y) (n : Nat) : m_X9_run_L115 inp T (n + 1) a v = m_X9_run_L115 inp T n y (v + 1) := by
  conv => lhs; unfold m_X9_run_L115
  simp (disch := omega) only [xr, xck_t, xck_T, if_pos, if_neg, if_true, if_false, xbs, or_true, true_or, and_true, true_and, e, ho]
theorem s_115e {T : xS} {inp a v : Int} (hv : v = 4) (n : Nat) : m_X9_run_L115 inp T (n + 1) a v = some a := by
  unfold m_X9_run_L115
  simp (disch := omega) only [xr, xck_t, xck_T, if_pos, if_neg, if_true, if_false, xbs, or_true, true_or, and_true, true_and]
theorem p_outC {V T : xS} {inp : Int} (hr : zRun V inp) (e11 : ∀ k, 0 ≤ k → k < 34 → T 11 k = V 8 k) (h23 : ∀ d, 0 ≤ d → d < V 50 0 → T 23 d = V 9 d) : ∃ r, m_X0_step_L65 V 2000 0 0 = some r ∧ m_X9_run_L115 inp T 2000 0 0 = some r := by
  have hn := hr.1
  have x : ∀ o, 0 ≤ o → o < 4 → m_X0_valueAt (30 + o) V = some (xval V (30 + o)) ∧ m_X9_sourceValue (T 11 (30 + o)) inp T = some (xval V (30 + o)) ∧ (xval V (30 + o) = 0 ∨ xval V (30 + o) = 1) := fun o o0 o1 => by
    refine ⟨p_valC hr ⟨by omega, by omega⟩, ?_, hr.val ⟨by omega, by omega⟩⟩
    rw [e11 _ (by omega) (by omega), p_svC (by omega) (hr.2.1 (30 + o) (by omega) (by omega)), yx_val hr ⟨by omega, by omega⟩ (fun y0 y1 => h23 _ y0 y1)]
  obtain ⟨a5, a1, a4⟩ := x 0 (by decide) (by decide)
  obtain ⟨b5, b1, b4⟩ := x (0 + 1) (by decide) (by decide)
  obtain ⟨c5, c1, c4⟩ := x (0 + 1 + 1) (by decide) (by decide)
  obtain ⟨d5, d1, d4⟩ := x (0 + 1 + 1 + 1) (by decide) (by decide)
  generalize xval V (30 + 0) = v0 at *
  generalize xval V (30 + (0 + 1)) = v1 at *
  generalize xval V (30 + (0 + 1 + 1)) = v2 at *
  generalize xval V (30 + (0 + 1 + 1 + 1)) = v3 at *
  have o0 := x_or (a := 0) (v := v0) (k := 0) (P := 1) rfl a4 (by decide) (by decide)
  have o1 := x_or (a := 0 + v0 * 1) (v := v1) (k := 0 + 1) (P := 2) rfl b4 (by decide) (by omega)
  have o2 := x_or (a := 0 + v0 * 1 + v1 * 2) (v := v2) (k := 0 + 1 + 1) (P := 4) rfl c4 (by decide) (by omega)
  have o3 := x_or (a := 0 + v0 * 1 + v1 * 2 + v2 * 4) (v := v3) (k := 0 + 1 + 1 + 1) (P := 8) rfl d4 (by decide) (by omega)
  have q0 := x_shl (v := v0) (k := 0) a4 (by decide)
  have q1 := x_shl (v := v1) (k := 0 + 1) b4 (by decide)
  have q2 := x_shl (v := v2) (k := 0 + 1 + 1) c4 (by decide)
  have q3 := x_shl (v := v3) (k := 0 + 1 + 1 + 1) d4 (by decide)
  refine ⟨0 + v0 * 1 + v1 * 2 + v2 * 4 + v3 * 8, ?_, ?_⟩
  · rw [s_65 (by decide) a5 o0 1999, s_65 (by decide) b5 o1 1998, s_65 (by decide) c5 o2 1997, s_65 (by decide) d5 o3 1996, s_65e (v := 0 + 1 + 1 + 1 + 1) (by decide) 1995]
  · rw [s_115 (by decide) a1 rfl 1999, s_115 (by decide) b1 rfl 1998, s_115 (by decide) c1 rfl 1997, s_115 (by decide) d1 rfl 1996, s_115e (v := 0 + 1 + 1 + 1 + 1) (by decide) 1995, q0, q1, q2, q3]
    rfl
/-- what a cell holds behind the clock -/
def xnx (V : xS) (c : Int) : Int := if V 5 c = 0 then V 9 c else xtab V c
theorem p_nextX {V : xS} {inp : Int} (hr : zRun V inp) (h5 : ∀ c, 0 ≤ c → c < V 50 0 → V 5 c = 0 ∨ V 5 c = 1) : ∀ (d n : Nat) (v : Int) (S1 : xS), (∀ q, q ≠ 10 → S1 q = V q) → 0 ≤ v → v + d = V 50 0 → d < n → (∀ j, 0 ≤ j → j < v → S1 10 j = xnx V j) → ∃ S2, m_X0_stepRegisters_L2 n v S1 = some S2 ∧ (∀ q, q ≠ 10 → S2 q = V q) ∧ (∀ j, 0 ≤ j → j < V 50 0 → S2 10 j = xnx V j) := by
  intro d
  induction d with
  | zero =>
    intro n v S1 hS h0 h1 h2 hj
    obtain ⟨n, rfl⟩ : ∃ j, n = j + 1 := ⟨n - 1, by omega⟩
    have hn := hr.1
    refine ⟨S1, ?_, hS, fun j j0 j1 => hj j j0 (by omega)⟩
    unfold m_X0_stepRegisters_L2
    rw [hS 50 (by decide)]
    simp (disch := omega) only [xr, xck_t, xck_T, if_pos, if_neg, if_true, if_false, xbs, or_true, true_or, and_true, true_and]
  | succ d ih =>
    intro n v S1 hS h0 h1 h2 hj
    obtain ⟨n, rfl⟩ : ∃ j, n = j + 1 := ⟨n - 1, by omega⟩
    have hn := hr.1
    have hr1 : zRun S1 inp := by
      unfold zRun at hr ⊢
      rw [hS 50 (by decide), hS 8 (by decide), hS 9 (by decide)]
      exact hr
    have et := p_tabC hr1 (c := v) ⟨h0, by omega⟩
    have ex : xtab S1 v = xtab V v := by
      unfold xtab xval
      rw [hS 4 (by decide), hS 8 (by decide), hS 9 (by decide)]
    rw [ex] at et
    obtain ⟨S2, i1, i2, i3⟩ := ih n (v + 1) (xup S1 10 v (xnx V v)) (fun q hq => by rw [xup_q _ _ _ hq]; exact hS q hq) (by omega) (by omega) (by omega) (fun j j0 j1 => by
      by_cases e : j = v
      · rw [e, xup_s]
      · rw [xup_i _ _ _ e]
        exact hj j j0 (by omega))
    refine ⟨S2, ?_, i2, i3⟩
    have g5 := h5 v h0 (by omega)
    unfold m_X0_stepRegisters_L2
    unfold xnx at i1
    rw [hS 50 (by decide), hS 5 (by decide), hS 9 (by decide)]
    rcases g5 with c | c
    · rw [if_pos c] at i1
      simp (disch := omega) only [xr, xck_t, xck_T, if_pos, if_neg, if_true, if_false, xbs, or_true, true_or, and_true, true_and]
      exact i1
    · rw [if_neg (by omega)] at i1
      simp (disch := omega) only [xr, xck_t, xck_T, if_pos, if_neg, if_true, if_false, xbs, or_true, true_or, and_true, true_and, et]
      exact i1
theorem zw_ext (f g : Int → Int) : ∀ n : Nat, (∀ j : Int, 0 ≤ j → j < n → f j = g j) → zw f n = zw g n := by
  intro n
  induction n with
  | zero => intro _; rfl
  | succ n ih =>
    intro h
    unfold zw
    rw [ih (fun j j0 j1 => h j j0 (by omega)), h n (by omega) (by omega)]
theorem zw_stop (g : Int → Int) (n : Nat) (h : ∀ j : Int, (n : Int) ≤ j → g j = 0) : ∀ d : Nat, zw g (n + d) = zw g n := by
  intro d
  induction d with
  | zero => rfl
  | succ d ih =>
    show zw g (n + d) + g ((n + d : Nat) : Int) * 2 ^ (n + d) = _
    rw [ih, h _ (by omega)]
    omega
theorem zw_n (f : Int → Int) (n : Nat) (hn : n ≤ 16) (hf : ∀ j : Int, 0 ≤ j → j < n → 0 ≤ f j ∧ f j ≤ 1) : ∀ v : Int, 0 ≤ v → v < n → xb_iand (xb_ishr (zw f n) v) 1 = f v := by
  have e1 : zw f n = zw (fun j => if j < (n : Int) then f j else 0) n := zw_ext _ _ n (fun j j0 j1 => by simp only [if_pos j1])
  have e2 := zw_stop (fun j => if j < (n : Int) then f j else 0) n (fun j hj => if_neg (by omega)) (16 - n)
  rw [show n + (16 - n) = 16 by omega] at e2
  intro v v0 v1
  rw [e1, ← e2, (zw_16 _ (fun j j0 j1 => by
    by_cases c : j < (n : Int)
    · simp only [if_pos c]
      exact hf j j0 c
    · simp only [if_neg c]
      omega)).2 v v0 (by omega)]
  exact if_pos v1
theorem p_nextY {V T : xS} {inp : Int} (hr : zRun V inp) (hs : zSame V T) (h23 : ∀ d, 0 ≤ d → d < V 50 0 → T 23 d = V 9 d) (q : Int) : ∀ (d n v : Nat), (v : Int) + d = V 50 0 → d < n → m_X9_run_L150 inp q T n (zw (xtab V) v) (v : Int) = some (zw (xtab V) (V 50 0).toNat) := by
  intro d
  induction d with
  | zero =>
    intro n v h1 h2
    obtain ⟨n, rfl⟩ : ∃ j, n = j + 1 := ⟨n - 1, by omega⟩
    have hn := hr.1
    unfold m_X9_run_L150
    rw [hs.1]
    have e : (V 50 0).toNat = v := by omega
    rw [e]
    simp (disch := omega) only [xr, xck_t, xck_T, if_pos, if_neg, if_true, if_false, xbs, or_true, true_or, and_true, true_and]
  | succ d ih =>
    intro n v h1 h2
    obtain ⟨n, rfl⟩ : ∃ j, n = j + 1 := ⟨n - 1, by omega⟩
    have hn := hr.1
    have hv : 0 ≤ (v : Int) ∧ (v : Int) < V 50 0 := by omega
    have lk := (p_lookC (T := T) hr hv hs.2.2 (hs.2.1 v hv.1 hv.2).1 (fun e e0 e1 => by rw [h23 e e0 e1]; exact hr.2.2.1 e e0 e1)).2 (fun p p0 p1 y0 y1 => h23 _ y0 y1)
    have i := ih n (v + 1) (by omega) (by omega)
    unfold m_X9_run_L150
    rw [hs.1, lk, xbs]
    have hxt : xtab V (v : Int) = 0 ∨ xtab V (v : Int) = 1 := xb_and1 _
    rw [x_shl (v := xtab V (v : Int)) (k := (v : Int)) hxt ⟨by omega, by omega⟩]
    simp (disch := omega) only [xr, xck_t, xck_T, if_pos, if_neg, if_true, if_false, xbs, or_true, true_or, and_true, true_and]
    exact i
theorem p_lastY {T : xS} {f : Int → Int} {p3 n0 : Int} (hn : 0 ≤ n0 ∧ n0 ≤ 10) (e50 : T 50 0 = n0) (hp : ∀ v, 0 ≤ v → v < n0 → xb_iand (xb_ishr p3 v) 1 = f v) (q : Int) : ∀ (d n : Nat) (v : Int) (T1 : xS), (∀ a, a ≠ 9 → T1 a = T a) → 0 ≤ v → v + d = n0 → d < n → (∀ j, 0 ≤ j → j < v → T1 9 j = f j) → ∃ T2, m_X9_run_L181 q p3 n v T1 = some T2 ∧ (∀ a, a ≠ 9 → T2 a = T a) ∧ (∀ j, 0 ≤ j → j < n0 → T2 9 j = f j) := by
  intro d
  induction d with
  | zero =>
    intro n v T1 hT h0 h1 h2 hj
    obtain ⟨n, rfl⟩ : ∃ j, n = j + 1 := ⟨n - 1, by omega⟩
    refine ⟨T1, ?_, hT, fun j j0 j1 => hj j j0 (by omega)⟩
    unfold m_X9_run_L181
    rw [hT 50 (by decide), e50]
    simp (disch := omega) only [xr, xck_t, xck_T, if_pos, if_neg, if_true, if_false, xbs, or_true, true_or, and_true, true_and]
  | succ d ih =>
    intro n v T1 hT h0 h1 h2 hj
    obtain ⟨n, rfl⟩ : ∃ j, n = j + 1 := ⟨n - 1, by omega⟩
    obtain ⟨T2, i1, i2, i3⟩ := ih n (v + 1) (xup T1 9 v (f v)) (fun a ha => by rw [xup_q _ _ _ ha]; exact hT a ha) (by omega) (by omega) (by omega) (fun j j0 j1 => by
      by_cases e : j = v
      · rw [e, xup_s]
      · rw [xup_i _ _ _ e]
        exact hj j j0 (by omega))
    refine ⟨T2, ?_, i2, i3⟩
    unfold m_X9_run_L181
    rw [hT 50 (by decide), e50, hp v h0 (by omega)]
    simp (disch := omega) only [xr, xck_t, xck_T, if_pos, if_neg, if_true, if_false, xbs, or_true, true_or, and_true, true_and]
    exact i1
theorem p_run {S T : xS} (h : zRel S T) (inp : Int) : ∃ r S1 T1, m_X8_run inp S = some (r, S1) ∧ m_X9_run inp T = some (r, T1) ∧ zRel S1 T1 := by
  obtain ⟨r, S0, T0, a1, a2, a3, a4, a5⟩ := p_ring h
  unfold m_X8_run m_X9_run
  rw [a1, a2, xbs, xbs]
  rcases a4 with z | z
  · obtain ⟨o1, o2, o3, o4⟩ := a5 z
    subst z
    obtain ⟨hn, e50, hcc, hs, h7⟩ := a3.2.2.2.1
    obtain ⟨V0, b1, b2, b3, b4⟩ := p_inpC inp 4 2000 0 S0 (by omega) (by omega) (by omega) (fun i i0 i1 => by omega)
    have hr0 : zRun V0 inp := by
      refine ⟨?_, ?_, ?_, b4⟩
      · rw [b2 50 (by decide)]
        exact hn
      · rw [b2 50 (by decide), b2 8 (by decide)]
        exact fun k k0 k1 => (hs k k0 k1).2
      · intro c c0 c1
        rw [b2 50 (by decide)] at c1
        rw [b3 c (by omega)]
        exact (hcc c c0 c1).2.2.2.2.2.2.2.2.1
    have ho0 : zOrd V0 := by
      unfold zOrd at o1 ⊢
      rw [b2 51 (by decide), b2 11 (by decide), b2 50 (by decide), b2 5 (by decide), b2 12 (by decide), b2 8 (by decide)]
      exact o1
    obtain ⟨V, c1, c2, c3, c4, c5⟩ := p_ordC inp (V0 51 0).toNat 2000 0 V0 hr0 ho0 (by rw [b2 51 (by decide)]; exact o3) (by omega) (by rw [b2 51 (by decide)]; omega) (by rw [b2 51 (by decide)]; omega) (fun i i0 i1 => by omega)
    have ev : ∀ q, q ≠ 9 → V q = S0 q := fun q hq => by rw [c2 q hq, b2 q hq]
    have hoV : zOrd V := by
      unfold zOrd at o1 ⊢
      rw [ev 51 (by decide), ev 11 (by decide), ev 50 (by decide), ev 5 (by decide), ev 12 (by decide), ev 8 (by decide)]
      exact o1
    have e11V : V0 11 = V 11 := by rw [c2 11 (by decide)]
    have e51V : V0 51 0 = V 51 0 := by rw [c2 51 (by decide)]
    rw [e11V, e51V] at c5
    have hV9 : ∀ c, 0 ≤ c → c < S0 50 0 → S0 5 c = 1 → V 9 c = S0 9 c := fun c d0 d1 d2 => by
      rw [c4 c d0 (by rw [b2 50 (by decide)]; exact d1) (by rw [b2 5 (by decide)]; exact d2), b3 c (by omega)]
    have hSame : zSame V T0 := by
      refine ⟨?_, ?_, ?_⟩
      · rw [ev 50 (by decide)]
        exact e50
      · intro c d0 d1
        rw [ev 50 (by decide)] at d1
        obtain ⟨q1, q2, q3, q4, q5, q6, q7, q8, q9, q10⟩ := hcc c d0 d1
        rw [ev 4 (by decide), ev 5 (by decide)]
        exact ⟨q1, q3, q4, fun w => by rw [hV9 c d0 d1 w]; exact q10 w⟩
      · intro k k0 k1
        rw [ev 8 (by decide)]
        exact (hs k k0 k1).1
    obtain ⟨T1, d1, d2, d3⟩ := p_sw0 c3 hSame (V 50 0).toNat 2000 0 T0 (by omega) (by have := c3.1; omega) (by have := c3.1; omega) (fun _ _ => rfl) (fun e e0 e1 => by omega)
    have hsw : zSw V T0 T1 0 0 := by
      refine ⟨d2, fun e e0 e1 => ?_, fun e e0 e1 e2 => ?_, fun j j0 j1 => by omega, fun j j0 j1 j2 j3 => by have := (hoV.1 j j0 j2).1.1; omega⟩
      · rw [d3 e e0 e1]
        by_cases w : V 5 e = 0
        · rw [if_pos w]
          exact Or.inl rfl
        · rw [if_neg w]
          exact c3.2.2.1 e e0 e1
      · rw [d3 e e0 e1, if_neg (by omega)]
    obtain ⟨T2, f1, f2⟩ := p_sw2 c3 hoV c5 hSame 10 2000 0 T1 hsw (by omega) (by omega) (by omega)
    obtain ⟨g1, g2, g3, g4, g5⟩ := f2
    have h23 : ∀ d, 0 ≤ d → d < V 50 0 → T2 23 d = V 9 d := fun d w0 w1 => by
      have e1 : V 12 d = 1 := by
        rw [ev 12 (by decide)]
        exact o2 d w0 (by rw [ev 50 (by decide)] at w1; exact w1)
      rcases hoV.2.2.1 d w0 w1 e1 with w | ⟨j, j0, j1, j2⟩
      · exact g3 d w0 w1 w
      · rw [← j2]
        exact g4 j j0 (by rw [ev 51 (by decide)] at j1; omega) j1
    have hSame2 : zSame V T2 := by
      unfold zSame at hSame ⊢
      rw [g1 50 (by decide), g1 6 (by decide), g1 7 (by decide), g1 9 (by decide), g1 11 (by decide)]
      exact hSame
    obtain ⟨r, k1, k2⟩ := p_outC c3 hSame2.2.2 h23
    obtain ⟨S3, l1, l2, l3⟩ := p_nextX c3 (fun c w0 w1 => (hSame.2.1 c w0 w1).2.2.1) (V 50 0).toNat 2000 0 V (fun _ _ => rfl) (by omega) (by have := c3.1; omega) (by have := c3.1; omega) (fun j j0 j1 => by omega)
    have m1 := p_nextY c3 hSame2 h23 r (V 50 0).toNat 2000 0 (by have := c3.1; omega) (by have := c3.1; omega)
    have hnV := c3.1
    obtain ⟨T3, n1, n2, n3⟩ := p_lastY (T := T2) (f := xtab V) (p3 := zw (xtab V) (V 50 0).toNat) (n0 := V 50 0) hnV hSame2.1 (fun v w0 w1 => zw_n (xtab V) (V 50 0).toNat (by omega) (fun j j0 j1 => by have := xb_and1 (xb_ishr (V 4 j) (xval V (j * 3 + 0) + 2 * xval V (j * 3 + (0 + 1)) + 4 * xval V (j * 3 + (0 + 1 + 1)))); unfold xtab; omega) v w0 (by omega)) r (V 50 0).toNat 2000 0 T2 (fun _ _ => rfl) (by omega) (by omega) (by omega) (fun j j0 j1 => by omega)
    have e50S : S3 50 0 = V 50 0 := by rw [l2 50 (by decide)]
    refine ⟨r, xcp S3 10 9 (V 50 0), T3, ?_, ?_, ?_⟩
    · have hstep : m_X0_step inp S0 = some (r, xcp S3 10 9 (V 50 0)) := by
        unfold m_X0_step m_X0_stepRegisters
        rw [b1, xbs, c1, xbs, k1, xbs, l1, xbs, e50S]
        simp (disch := omega) only [xr, xck_t, xck_T, if_pos, if_neg, if_true, if_false, xbs, or_true, true_or, and_true, true_and]
      simp (disch := omega) only [xr, xck_t, xck_T, if_pos, if_neg, if_true, if_false, xbs, or_true, true_or, and_true, true_and, hstep]
    · have m1b : m_X9_run_L150 inp r T2 2000 0 0 = some (zw (xtab V) (V 50 0).toNat) := m1
      simp (disch := omega) only [xr, xck_t, xck_T, if_pos, if_neg, if_true, if_false, xbs, or_true, true_or, and_true, true_and, d1, f1, k2, m1b, n1]
    · have eS : ∀ q, q ≠ 9 → q ≠ 10 → xcp S3 10 9 (V 50 0) q = S0 q := fun q q1 q2 => by rw [xcp_q _ _ q1, l2 q q2, ev q q1]
      have eT : ∀ q, q ≠ 9 → q ≠ 23 → T3 q = T0 q := fun q q1 q2 => by rw [n2 q q1, g1 q q2]
      have e9 : ∀ c, 0 ≤ c → c < S0 50 0 → xcp S3 10 9 (V 50 0) 9 c = xnx V c := fun c w0 w1 => by
        rw [show xcp S3 10 9 (V 50 0) 9 c = S3 10 c from if_pos ⟨rfl, w0, by rw [ev 50 (by decide)]; exact w1⟩]
        exact l3 c w0 (by rw [ev 50 (by decide)]; exact w1)
      obtain ⟨r1, r2, r3, r4, r5, r6, r7⟩ := a3
      refine ⟨?_, ?_, ?_, ?_, ?_, ?_, ?_⟩
      · unfold zFB at r1 ⊢
        rw [eS 0 (by decide) (by decide), eS 1 (by decide) (by decide)]
        exact r1
      · unfold zFA at r2 ⊢
        rw [eS 2 (by decide) (by decide), eS 3 (by decide) (by decide)]
        exact r2
      · unfold zQ at r3 ⊢
        rw [eS 54 (by decide) (by decide), eS 53 (by decide) (by decide), eS 25 (by decide) (by decide)]
        exact r3
      · refine ⟨?_, ?_, ?_, ?_, ?_⟩
        · rw [eS 50 (by decide) (by decide)]
          exact hn
        · rw [eS 50 (by decide) (by decide), eT 50 (by decide) (by decide)]
          exact e50
        · intro c w0 w1
          rw [eS 50 (by decide) (by decide)] at w1
          obtain ⟨q1, q2, q3, q4, q5, q6, q7, q8, q9, q10⟩ := hcc c w0 w1
          rw [eS 4 (by decide) (by decide), eS 5 (by decide) (by decide), eS 6 (by decide) (by decide), eS 7 (by decide) (by decide), eT 6 (by decide) (by decide), eT 7 (by decide) (by decide), eT 8 (by decide) (by decide), eT 10 (by decide) (by decide), e9 c w0 w1]
          refine ⟨q1, q2, q3, q4, q5, q6, q7, q8, ?_, fun w => ?_⟩
          · unfold xnx
            by_cases y : V 5 c = 0
            · rw [if_pos y]
              exact c3.2.2.1 c w0 (by rw [ev 50 (by decide)]; exact w1)
            · rw [if_neg y]
              exact xb_and1 _
          · unfold xnx
            rw [n3 c w0 (by rw [ev 50 (by decide)]; exact w1), if_neg (by rw [ev 5 (by decide)]; omega)]
        · intro k k0 k1
          rw [eS 8 (by decide) (by decide), eS 50 (by decide) (by decide), eT 11 (by decide) (by decide)]
          exact hs k k0 k1
        · rw [eS 50 (by decide) (by decide), eS 7 (by decide) (by decide), eS 8 (by decide) (by decide)]
          exact h7
      · unfold zTile zRng zenc at r5 ⊢
        rw [eS 26 (by decide) (by decide), eS 27 (by decide) (by decide), eT 0 (by decide) (by decide), eT 1 (by decide) (by decide), eT 2 (by decide) (by decide), eT 3 (by decide) (by decide), eT 4 (by decide) (by decide), eT 5 (by decide) (by decide)]
        exact r5
      · unfold zTrace at r6 ⊢
        rw [eS 29 (by decide) (by decide), eS 30 (by decide) (by decide), eT 3 (by decide) (by decide), eT 4 (by decide) (by decide)]
        exact r6
      · exact r7.of (eS 33 (by decide) (by decide)) (eS 52 (by decide) (by decide)) (eT 51 (by decide) (by decide)) (eT 52 (by decide) (by decide)) (eT 12 (by decide) (by decide))
  · subst z
    exact ⟨-2, S0, T0, by simp (disch := omega) only [xr, xck_t, xck_T, if_pos, if_neg, if_true, if_false, xbs, or_true, true_or, and_true, true_and], by simp (disch := omega) only [xr, xck_t, xck_T, if_pos, if_neg, if_true, if_false, xbs, or_true, true_or, and_true, true_and], a3⟩
