/-! the whole relation; retrace, pin, outputOf, channels, load -/
def zTrace (S T : xS) : Prop := (∀ p, 0 ≤ p → p < 48 → S 29 p = zor (T 4) (zbp p (T 3 p)) ∧ S 30 p = zlen (T 4) (zbp p (T 3 p))) ∧ (∀ o, 0 ≤ o → o < 4 → S 29 (48 + o) = zor (T 4) (36 * o + 30) ∧ S 30 (48 + o) = zlen (T 4) (36 * o + 30))
/-- which channels can be switched to a wire, as the class has it -/
def zFA (S : xS) : Prop := (∀ w, 0 ≤ w → w < 148 → 0 ≤ S 3 w ∧ S 3 w ≤ 8) ∧ (∀ w n, 0 ≤ w → w < 148 → 0 ≤ n → n < S 3 w → zisch (S 2 (w * 8 + n)) ∧ ∃ s, 1 ≤ s ∧ s ≤ 4 ∧ zbc (zch (S 2 (w * 8 + n))) s = w) ∧ (∀ v s, zisch v → 1 ≤ s → s ≤ 4 → 0 ≤ zbc (zch v) s → ∃ n, 0 ≤ n ∧ n < S 3 (zbc (zch v) s) ∧ S 2 (zbc (zch v) s * 8 + n) = v)
/-- the class's queue is empty -/
def zQ (S : xS) : Prop := S 54 0 = 0 ∧ (0 ≤ S 53 0 ∧ S 53 0 < 148) ∧ (∀ w, 0 ≤ w → w < 148 → S 25 w = 0)
def zRel (S T : xS) : Prop := zFB S ∧ zFA S ∧ zQ S ∧ zCirc S T ∧ zTile S T ∧ zTrace S T ∧ zBuilt S T
theorem zRel.of {S T S1 T1 : xS} (h : zRel S T) (hS : ∀ q, (q ≤ 9 ∨ q = 25 ∨ q = 26 ∨ q = 27 ∨ q = 29 ∨ q = 30 ∨ q = 33 ∨ q = 50 ∨ q = 52 ∨ q = 53 ∨ q = 54) → S1 q = S q) (hT : ∀ q, (q ≤ 12 ∨ q = 50 ∨ q = 51 ∨ q = 52) → T1 q = T q) : zRel S1 T1 := by
  obtain ⟨h1, h2, h3, h4, h5, h6, h7⟩ := h
  refine ⟨?_, ?_, ?_, ?_, ?_, ?_, ?_⟩
  · unfold zFB at h1 ⊢
    rw [hS 0 (by decide), hS 1 (by decide)]
    exact h1
  · unfold zFA at h2 ⊢
    rw [hS 2 (by decide), hS 3 (by decide)]
    exact h2
  · unfold zQ at h3 ⊢
    rw [hS 54 (by decide), hS 53 (by decide), hS 25 (by decide)]
    exact h3
  · exact h4.of (hS 50 (by decide)) (hS 4 (by decide)) (hS 5 (by decide)) (hS 6 (by decide)) (hS 7 (by decide)) (hS 8 (by decide)) (hS 9 (by decide)) (hT 50 (by decide)) (hT 6 (by decide)) (hT 7 (by decide)) (hT 8 (by decide)) (hT 9 (by decide)) (hT 10 (by decide)) (hT 11 (by decide))
  · unfold zTile zRng zenc at h5 ⊢
    rw [hS 26 (by decide), hS 27 (by decide), hT 0 (by decide), hT 1 (by decide), hT 2 (by decide), hT 3 (by decide), hT 4 (by decide), hT 5 (by decide)]
    exact h5
  · unfold zTrace at h6 ⊢
    rw [hS 29 (by decide), hS 30 (by decide), hT 3 (by decide), hT 4 (by decide)]
    exact h6
  · exact h7.of (hS 33 (by decide)) (hS 52 (by decide)) (hT 51 (by decide)) (hT 52 (by decide)) (hT 12 (by decide))
theorem p_pinSet {S T : xS} (hr : zRng T) (hB : ∀ t, 0 ≤ t → t < 16 → S 26 t = zenc T t) {p : Int} (hp : 0 ≤ p ∧ p < 48) : m_X5_pinSetting (Int64.ofInt (S 26 (p / 3))) (p % 3) = some (T 3 p) := by
  have ht : 0 ≤ p / 3 ∧ p / 3 < 16 := by omega
  obtain ⟨b, e0, e1, e2, p0, p1, p2, c0, c1, c2, c3, c4, c5, c6, c7⟩ := zenc_all hr ht
  rw [hB _ ht.1 ht.2]
  rcases (show p % 3 = 0 ∨ p % 3 = 1 ∨ p % 3 = 2 by omega) with e | e | e <;> rw [e]
  · rw [p_pinS (P := 1024) b (by decide) rfl, p0]
    congr 2
    omega
  · rw [p_pinS (P := 16384) b (by decide) rfl, p1]
    congr 2
    omega
  · rw [p_pinS (P := 262144) b (by decide) rfl, p2]
    congr 2
    omega
theorem p_retr1 {T : xS} (hr : zRng T) : ∀ (d n : Nat) (v : Int) (S : xS), zFB S → (∀ t, 0 ≤ t → t < 16 → S 26 t = zenc T t) → 0 ≤ v → v + d = 48 → d < n → (∀ p, 0 ≤ p → p < v → S 29 p = zor (T 4) (zbp p (T 3 p)) ∧ S 30 p = zlen (T 4) (zbp p (T 3 p))) →
    ∃ S1, m_X5_retrace_L2 n v S = some S1 ∧ (∀ q, q ≠ 29 → q ≠ 30 → S1 q = S q) ∧ (∀ p, 0 ≤ p → p < 48 → S1 29 p = zor (T 4) (zbp p (T 3 p)) ∧ S1 30 p = zlen (T 4) (zbp p (T 3 p))) := by
  intro d
  induction d with
  | zero =>
    intro n v S hf hB h0 h1 h2 hd
    obtain ⟨n, rfl⟩ : ∃ j, n = j + 1 := ⟨n - 1, by omega⟩
    refine ⟨S, ?_, fun _ _ _ => rfl, fun p p0 p1 => hd p p0 (by omega)⟩
    unfold m_X5_retrace_L2
    simp (disch := omega) only [xr, xck_t, xck_T, if_pos, if_neg, if_true, if_false, xbs, or_true, true_or, and_true, true_and]
  | succ d ih =>
    intro n v S hf hB h0 h1 h2 hd
    obtain ⟨n, rfl⟩ : ∃ j, n = j + 1 := ⟨n - 1, by omega⟩
    have hv : 0 ≤ v ∧ v < 48 := by omega
    have h3 := hr.2.1 v hv.1 hv.2
    have hb := (zbp_of (s := T 3 v) hv ⟨h3.1, by omega⟩).2
    have e1 : m_X1_beforePin (v / 3) (T 3 v) S = some (zbp v (T 3 v)) := by
      have e := hf.2 v (T 3 v) hv.1 hv.2 h3.1 (by omega)
      unfold m_X1_beforePin
      simp (disch := omega) only [xr, xck_t, xck_T, if_pos, if_neg, if_true, if_false, xbs, or_true, true_or, and_true, true_and]
      rw [e]
    obtain ⟨S1, i1, i2, i3⟩ := ih n (v + 1) (xup (xup S 29 v (zor (T 4) (zbp v (T 3 v)))) 30 v (zlen (T 4) (zbp v (T 3 v))))
      (by
        unfold zFB at hf ⊢
        rw [xup_q _ _ _ (by decide : (0 : Nat) ≠ 30), xup_q _ _ _ (by decide : (0 : Nat) ≠ 29), xup_q _ _ _ (by decide : (1 : Nat) ≠ 30), xup_q _ _ _ (by decide : (1 : Nat) ≠ 29)]
        exact hf)
      (by
        rw [xup_q _ _ _ (by decide : (26 : Nat) ≠ 30), xup_q _ _ _ (by decide : (26 : Nat) ≠ 29)]
        exact hB)
      (by omega) (by omega) (by omega)
      (fun p p0 p1 => by
        rw [xup_q _ _ _ (by decide : (29 : Nat) ≠ 30)]
        by_cases hp : p = v
        · subst hp
          exact ⟨xup_s _ _ _ _, xup_s _ _ _ _⟩
        · rw [xup_i _ _ _ hp, xup_i _ _ _ hp, xup_q _ _ _ (by decide : (30 : Nat) ≠ 29)]
          exact hd p p0 (by omega))
    refine ⟨S1, ?_, fun q q1 q2 => ?_, i3⟩
    · unfold m_X5_retrace_L2
      simp (disch := omega) only [xr, xck_t, xck_T, if_pos, if_neg, if_true, if_false, xbs, or_true, true_or, and_true, true_and]
      rw [p_pinSet hr hB hv, xbs, e1, xbs, p_trace hf hr hB ⟨by omega, by omega⟩ hb.1 hb.2, xbs]
      exact i1
    · rw [i2 q q1 q2, xup_q _ _ _ q2, xup_q _ _ _ q1]
theorem p_outW (o : Int) : m_X1_outputWire o = some (36 * o + 30) ∧ m_X9_outputWire o = some (36 * o + 30) := by
  unfold m_X1_outputWire m_X9_outputWire m_X1_channelOf m_X9_channel
  refine ⟨?_, ?_⟩
  · simp (disch := omega) only [xr, xck_t, xck_T, if_pos, if_neg, if_true, if_false, xbs, or_true, true_or, and_true, true_and]
    congr 1
    omega
  · simp (disch := omega) only [xr, xck_t, xck_T, if_pos, if_neg, if_true, if_false, xbs, or_true, true_or, and_true, true_and]
    congr 1
    omega
theorem p_retr2 {T : xS} (hr : zRng T) : ∀ (d n : Nat) (v : Int) (S : xS), zFB S → (∀ t, 0 ≤ t → t < 16 → S 26 t = zenc T t) → 0 ≤ v → v + d = 4 → d < n → (∀ p, 0 ≤ p → p < v → S 29 (48 + p) = zor (T 4) (36 * p + 30) ∧ S 30 (48 + p) = zlen (T 4) (36 * p + 30)) →
    ∃ S1, m_X5_retrace_L47 n v S = some S1 ∧ (∀ q, q ≠ 29 → q ≠ 30 → S1 q = S q) ∧ (∀ j, j < 48 → S1 29 j = S 29 j ∧ S1 30 j = S 30 j) ∧ (∀ p, 0 ≤ p → p < 4 → S1 29 (48 + p) = zor (T 4) (36 * p + 30) ∧ S1 30 (48 + p) = zlen (T 4) (36 * p + 30)) := by
  intro d
  induction d with
  | zero =>
    intro n v S hf hB h0 h1 h2 hd
    obtain ⟨n, rfl⟩ : ∃ j, n = j + 1 := ⟨n - 1, by omega⟩
    refine ⟨S, ?_, fun _ _ _ => rfl, fun _ _ => ⟨rfl, rfl⟩, fun p p0 p1 => hd p p0 (by omega)⟩
    unfold m_X5_retrace_L47
    simp (disch := omega) only [xr, xck_t, xck_T, if_pos, if_neg, if_true, if_false, xbs, or_true, true_or, and_true, true_and]
  | succ d ih =>
    intro n v S hf hB h0 h1 h2 hd
    obtain ⟨n, rfl⟩ : ∃ j, n = j + 1 := ⟨n - 1, by omega⟩
    have hv : 0 ≤ v ∧ v < 4 := by omega
    obtain ⟨S1, i1, i2, i4, i3⟩ := ih n (v + 1) (xup (xup S 29 (48 + v) (zor (T 4) (36 * v + 30))) 30 (48 + v) (zlen (T 4) (36 * v + 30)))
      (by
        unfold zFB at hf ⊢
        rw [xup_q _ _ _ (by decide : (0 : Nat) ≠ 30), xup_q _ _ _ (by decide : (0 : Nat) ≠ 29), xup_q _ _ _ (by decide : (1 : Nat) ≠ 30), xup_q _ _ _ (by decide : (1 : Nat) ≠ 29)]
        exact hf)
      (by
        rw [xup_q _ _ _ (by decide : (26 : Nat) ≠ 30), xup_q _ _ _ (by decide : (26 : Nat) ≠ 29)]
        exact hB)
      (by omega) (by omega) (by omega)
      (fun p p0 p1 => by
        rw [xup_q _ _ _ (by decide : (29 : Nat) ≠ 30)]
        by_cases hp : p = v
        · subst hp
          exact ⟨xup_s _ _ _ _, xup_s _ _ _ _⟩
        · rw [xup_i _ _ _ (by omega), xup_i _ _ _ (by omega), xup_q _ _ _ (by decide : (30 : Nat) ≠ 29)]
          exact hd p p0 (by omega))
    refine ⟨S1, ?_, fun q q1 q2 => ?_, fun j hj => ?_, i3⟩
    · unfold m_X5_retrace_L47
      simp (disch := omega) only [xr, xck_t, xck_T, if_pos, if_neg, if_true, if_false, xbs, or_true, true_or, and_true, true_and]
      rw [(p_outW v).1, xbs, p_trace hf hr hB ⟨by omega, by omega⟩ (by omega) (by omega), xbs]
      exact i1
    · rw [i2 q q1 q2, xup_q _ _ _ q2, xup_q _ _ _ q1]
    · rw [(i4 j hj).1, (i4 j hj).2, xup_q _ _ _ (by decide : (29 : Nat) ≠ 30), xup_i _ _ _ (by omega), xup_i _ _ _ (by omega), xup_q _ _ _ (by decide : (30 : Nat) ≠ 29)]
      exact ⟨rfl, rfl⟩
theorem p_retrace {S T : xS} (hf : zFB S) (hr : zRng T) (hB : ∀ t, 0 ≤ t → t < 16 → S 26 t = zenc T t) : ∃ S1, m_X5_retrace S = some S1 ∧ (∀ q, q ≠ 29 → q ≠ 30 → S1 q = S q) ∧ zTrace S1 T := by
  obtain ⟨S1, a1, a2, a3⟩ := p_retr1 hr 48 2000 0 S hf hB (by omega) (by omega) (by omega) (fun p p0 p1 => by omega)
  obtain ⟨S2, b1, b2, b3, b4⟩ := p_retr2 hr 4 2000 0 S1
    (by
      unfold zFB at hf ⊢
      rw [a2 0 (by decide) (by decide), a2 1 (by decide) (by decide)]
      exact hf)
    (by
      rw [a2 26 (by decide) (by decide)]
      exact hB) (by omega) (by omega) (by omega) (fun p p0 p1 => by omega)
  refine ⟨S2, ?_, fun q q1 q2 => by rw [b2 q q1 q2, a2 q q1 q2], fun p p0 p1 => ?_, b4⟩
  · unfold m_X5_retrace
    rw [a1, xbs, b1, xbs]
  · rw [(b3 p p1).1, (b3 p p1).2]
    exact a3 p p0 p1
theorem p_gets {T : xS} (hr : zRng T) {p : Int} (hp : 0 ≤ p ∧ p < 48) : ∃ T1, m_X9_gets p T = some (zor (T 4) (zbp p (T 3 p)), T1) ∧ (∀ a, a ≠ 21 → a ≠ 53 → T1 a = T a) ∧ (0 ≤ zor (T 4) (zbp p (T 3 p)) → T1 53 0 = zlen (T 4) (zbp p (T 3 p))) := by
  have h3 := hr.2.1 p hp.1 hp.2
  have hb := zbp_of (s := T 3 p) hp ⟨h3.1, by omega⟩
  obtain ⟨T1, e1, e2, e3⟩ := p_comes hr hb.2.1 hb.2.2
  refine ⟨T1, ?_, e2, e3⟩
  unfold m_X9_gets
  rw [hb.1, xbs, e1, xbs]
  simp (disch := omega) only [xr, xck_t, xck_T, if_pos, if_neg, if_true, if_false, xbs, or_true, true_or, and_true, true_and]
theorem zRel.ofT {S T T1 : xS} (h : zRel S T) (hT : ∀ a, a ≠ 21 → a ≠ 53 → T1 a = T a) : zRel S T1 := h.of (fun _ _ => rfl) (fun q hq => hT q (by omega) (by omega))
theorem p_pin {S T : xS} {p1 p2 : Int} (h : zRel S T) (h1 : xr p1) (h2 : xr p2) : ∃ r T1, m_X8_pin p1 p2 S = some r ∧ m_X9_pin p1 p2 T = some (r, T1) ∧ zRel S T1 ∧ ((0 ≤ p1 ∧ p1 < 16) ∧ (0 ≤ p2 ∧ p2 < 3) → r = S 29 (3 * p1 + p2) ∧ (0 ≤ r → T1 53 0 = S 30 (3 * p1 + p2))) ∧ (¬ ((0 ≤ p1 ∧ p1 < 16) ∧ (0 ≤ p2 ∧ p2 < 3)) → r = -1) := by
  unfold m_X8_pin m_X9_pin m_X8_wayTo m_X5_originOf
  rw [p_in h1 ⟨by omega, by omega⟩ ⟨by omega, by omega⟩, p_in h2 ⟨by omega, by omega⟩ ⟨by omega, by omega⟩]
  by_cases a : (0 ≤ p1 ∧ p1 < 16) ∧ (0 ≤ p2 ∧ p2 < 3)
  · obtain ⟨a1, a2⟩ := id a
    obtain ⟨T1, e1, e2, e3⟩ := p_gets h.2.2.2.2.1.1 (p := 3 * p1 + p2) ⟨by omega, by omega⟩
    have ht := h.2.2.2.2.2.1.1 (3 * p1 + p2) (by omega) (by omega)
    refine ⟨S 29 (3 * p1 + p2), T1, ?_, ?_, h.ofT e2, fun _ => ⟨rfl, fun q => ?_⟩, fun c => absurd a c⟩
    · simp (disch := omega) only [xr, xck_t, xck_T, if_pos, if_neg, if_true, if_false, xbs, or_true, true_or, and_true, true_and]
      congr 2
      omega
    · simp (disch := omega) only [xr, xck_t, xck_T, if_pos, if_neg, if_true, if_false, xbs, or_true, true_or, and_true, true_and, e1]
      rw [ht.1]
    · rw [ht.2]
      exact e3 (by rw [← ht.1]; exact q)
  · refine ⟨-1, T, ?_, ?_, h, fun c => absurd c a, fun _ => rfl⟩
    · by_cases b : p1 < 0
      · simp (disch := omega) only [xr, xck_t, xck_T, if_pos, if_neg, if_true, if_false, xbs, or_true, true_or, and_true, true_and]
      · by_cases c : 16 ≤ p1
        · simp (disch := omega) only [xr, xck_t, xck_T, if_pos, if_neg, if_true, if_false, xbs, or_true, true_or, and_true, true_and]
        · by_cases d : p2 < 0
          · simp (disch := omega) only [xr, xck_t, xck_T, if_pos, if_neg, if_true, if_false, xbs, or_true, true_or, and_true, true_and]
          · simp (disch := omega) only [xr, xck_t, xck_T, if_pos, if_neg, if_true, if_false, xbs, or_true, true_or, and_true, true_and]
    · by_cases b : 0 ≤ p1 ∧ p1 ≤ 15
      · simp (disch := omega) only [xr, xck_t, xck_T, if_pos, if_neg, if_true, if_false, xbs, or_true, true_or, and_true, true_and]
      · simp (disch := omega) only [xr, xck_t, xck_T, if_pos, if_neg, if_true, if_false, xbs, or_true, true_or, and_true, true_and]
theorem p_outputOf {S T : xS} {p1 : Int} (h : zRel S T) (h1 : xr p1) : ∃ r T1, m_X8_outputOf p1 S = some r ∧ m_X9_outputOf p1 T = some (r, T1) ∧ zRel S T1 ∧ ((0 ≤ p1 ∧ p1 < 4) → r = S 29 (48 + p1) ∧ (0 ≤ r → T1 53 0 = S 30 (48 + p1)) ∧ ∀ a, a ≠ 21 → a ≠ 53 → T1 a = T a) := by
  unfold m_X8_outputOf m_X9_outputOf m_X5_originOf
  rw [p_in h1 ⟨by omega, by omega⟩ ⟨by omega, by omega⟩]
  by_cases a : 0 ≤ p1 ∧ p1 < 4
  · obtain ⟨T1, e1, e2, e3⟩ := p_comes h.2.2.2.2.1.1 (w := 36 * p1 + 30) (by omega) (by omega)
    have ht := h.2.2.2.2.2.1.2 p1 (by omega) (by omega)
    refine ⟨S 29 (48 + p1), T1, ?_, ?_, h.ofT e2, fun _ => ⟨rfl, fun q => ?_, e2⟩⟩
    · simp (disch := omega) only [xr, xck_t, xck_T, if_pos, if_neg, if_true, if_false, xbs, or_true, true_or, and_true, true_and]
    · simp (disch := omega) only [xr, xck_t, xck_T, if_pos, if_neg, if_true, if_false, xbs, or_true, true_or, and_true, true_and, (p_outW p1).2, e1]
      rw [ht.1]
    · rw [ht.2]
      exact e3 (by rw [← ht.1]; exact q)
  · refine ⟨-1, T, ?_, ?_, h, fun c => absurd c a⟩
    · by_cases b : p1 < 0
      · simp (disch := omega) only [xr, xck_t, xck_T, if_pos, if_neg, if_true, if_false, xbs, or_true, true_or, and_true, true_and]
      · simp (disch := omega) only [xr, xck_t, xck_T, if_pos, if_neg, if_true, if_false, xbs, or_true, true_or, and_true, true_and]
    · simp (disch := omega) only [xr, xck_t, xck_T, if_pos, if_neg, if_true, if_false, xbs, or_true, true_or, and_true, true_and]
theorem p_channels {S T : xS} {p1 p2 : Int} (h : zRel S T) (h1 : xr p1) (h2 : xr p2) : ∃ r T1, m_X8_channels p1 p2 S = some r ∧ m_X9_channels p1 p2 T = some (r, T1) ∧ zRel S T1 := by
  obtain ⟨r, T1, e1, e2, e3, e4, e5⟩ := p_pin h h1 h2
  unfold m_X8_channels m_X9_channels m_X8_wayTo m_X5_lengthOf
  rw [e2, xbs]
  dsimp only
  by_cases a : (0 ≤ p1 ∧ p1 < 16) ∧ (0 ≤ p2 ∧ p2 < 3)
  · obtain ⟨a1, a2⟩ := id a
    obtain ⟨f1, f2⟩ := e4 a
    have ht := h.2.2.2.2.2.1.1 (3 * p1 + p2) (by omega) (by omega)
    have hr := h.2.2.2.2.1.1
    have h3 := hr.2.1 (3 * p1 + p2) (by omega) (by omega)
    have hb := zbp_of (c := 3 * p1 + p2) (s := T 3 (3 * p1 + p2)) ⟨by omega, by omega⟩ ⟨h3.1, by omega⟩
    have hi := zor_in hr hb.2.1 hb.2.2
    rw [← ht.1, ← ht.2] at hi
    refine ⟨S 30 (3 * p1 + p2), T1, ?_, ?_, e3⟩
    · simp (disch := omega) only [xr, xck_t, xck_T, if_pos, if_neg, if_true, if_false, xbs, or_true, true_or, and_true, true_and]
      congr 2
      omega
    · by_cases b : 0 ≤ r
      · simp (disch := omega) only [xr, xck_t, xck_T, if_pos, if_neg, if_true, if_false, xbs, or_true, true_or, and_true, true_and, f2 b]
      · have e0 : S 30 (3 * p1 + p2) = 0 := by
          rw [ht.2]
          unfold zlen
          rw [if_pos (by rw [← ht.1]; omega)]
        rw [e0]
        simp (disch := omega) only [xr, xck_t, xck_T, if_pos, if_neg, if_true, if_false, xbs, or_true, true_or, and_true, true_and]
  · have f := e5 a
    refine ⟨0, T1, ?_, ?_, e3⟩
    · by_cases b : p1 < 0
      · simp (disch := omega) only [xr, xck_t, xck_T, if_pos, if_neg, if_true, if_false, xbs, or_true, true_or, and_true, true_and]
      · by_cases c : 16 ≤ p1
        · simp (disch := omega) only [xr, xck_t, xck_T, if_pos, if_neg, if_true, if_false, xbs, or_true, true_or, and_true, true_and]
        · by_cases d : p2 < 0
          · simp (disch := omega) only [xr, xck_t, xck_T, if_pos, if_neg, if_true, if_false, xbs, or_true, true_or, and_true, true_and]
          · simp (disch := omega) only [xr, xck_t, xck_T, if_pos, if_neg, if_true, if_false, xbs, or_true, true_or, and_true, true_and]
    · simp (disch := omega) only [xr, xck_t, xck_T, if_pos, if_neg, if_true, if_false, xbs, or_true, true_or, and_true, true_and]
