/-! routing: the class's queue, how it spreads -/
def zQu (S : xS) : Prop := (0 ≤ S 53 0 ∧ S 53 0 < 148) ∧ 0 ≤ S 54 0 ∧ (∀ w, 0 ≤ w → w < 148 → S 25 w = 0 ∨ S 25 w = 1) ∧ S 54 0 = zsum (S 25) 148 ∧
  (∀ i, 0 ≤ i → i < S 54 0 → (0 ≤ S 24 ((S 53 0 + i) % 148) ∧ S 24 ((S 53 0 + i) % 148) < 148) ∧ S 25 (S 24 ((S 53 0 + i) % 148)) = 1) ∧
  (∀ i j, 0 ≤ i → i < j → j < S 54 0 → S 24 ((S 53 0 + i) % 148) ≠ S 24 ((S 53 0 + j) % 148)) ∧
  (∀ w, 0 ≤ w → w < 148 → S 25 w = 1 → ∃ i, (0 ≤ i ∧ i < S 54 0) ∧ S 24 ((S 53 0 + i) % 148) = w)
theorem zQu.of {S S1 : xS} (h : zQu S) (a : S1 24 = S 24) (b : S1 25 = S 25) (c : S1 53 = S 53) (d : S1 54 = S 54) : zQu S1 := by
  unfold zQu at h ⊢
  rw [a, b, c, d]
  exact h
theorem zQu.sz {S : xS} (h : zQu S) : S 54 0 ≤ 148 ∧ ∀ w, 0 ≤ w → w < 148 → S 25 w = 0 → S 54 0 < 148 := by
  have l := zsum_le (S 25) 148 (fun j j0 j1 => by
    have := h.2.2.1 j j0 (by omega)
    omega)
  rw [← h.2.2.2.1] at l
  refine ⟨by omega, fun w w0 w1 e => ?_⟩
  by_cases c : S 54 0 = 148
  · have := l.2.2 (by omega) w w0 (by omega)
    omega
  · omega
/-- the queue as it was, perhaps with more behind -/
def zqp (S S1 : xS) : Prop := S 54 0 ≤ S1 54 0 ∧ ∀ i, 0 ≤ i → i < S 54 0 → S1 24 ((S 53 0 + i) % 148) = S 24 ((S 53 0 + i) % 148)
theorem p_add {S : xS} (h : zQu S) {w : Int} (hw : 0 ≤ w ∧ w < 148) : ∃ S1, m_X7_add w S = some S1 ∧ zQu S1 ∧ (∀ q, q ≠ 24 → q ≠ 25 → q ≠ 54 → S1 q = S q) ∧ (∀ j, S1 25 j = if j = w then 1 else S 25 j) ∧ zqp S S1 := by
  obtain ⟨h53, h54, h25, hsum, hq, hd, hf⟩ := id h
  have hz := h.sz
  rcases h25 w hw.1 hw.2 with e | e
  · have h148 := hz.2 w hw.1 hw.2 e
    refine ⟨xup (xup (xup S 25 w 1) 24 ((S 53 0 + S 54 0) % 148) w) 54 0 (S 54 0 + 1), ?_, ?_, fun q q1 q2 q3 => by rw [xup_q _ _ _ q3, xup_q _ _ _ q1, xup_q _ _ _ q2], fun j => ?_, ?_, fun i i0 i1 => ?_⟩
    · unfold m_X7_add
      simp (disch := omega) only [xr, xck_t, xck_T, if_pos, if_neg, if_true, if_false, xbs, or_true, true_or, and_true, true_and]
    · have e53 : xup (xup (xup S 25 w 1) 24 ((S 53 0 + S 54 0) % 148) w) 54 0 (S 54 0 + 1) 53 = S 53 := by
        rw [xup_q _ _ _ (by decide : (53 : Nat) ≠ 54), xup_q _ _ _ (by decide : (53 : Nat) ≠ 24), xup_q _ _ _ (by decide : (53 : Nat) ≠ 25)]
      have e25 : xup (xup (xup S 25 w 1) 24 ((S 53 0 + S 54 0) % 148) w) 54 0 (S 54 0 + 1) 25 = xup S 25 w 1 25 := by
        rw [xup_q _ _ _ (by decide : (25 : Nat) ≠ 54), xup_q _ _ _ (by decide : (25 : Nat) ≠ 24)]
      have e24 : ∀ j, xup (xup (xup S 25 w 1) 24 ((S 53 0 + S 54 0) % 148) w) 54 0 (S 54 0 + 1) 24 j = if j = (S 53 0 + S 54 0) % 148 then w else S 24 j := fun j => by
        rw [xup_q _ _ _ (by decide : (24 : Nat) ≠ 54)]
        by_cases c : j = (S 53 0 + S 54 0) % 148
        · rw [if_pos c, c, xup_s]
        · rw [if_neg c, xup_i _ _ _ c, xup_q _ _ _ (by decide : (24 : Nat) ≠ 25)]
      unfold zQu
      rw [e53, e25, xup_s]
      simp only [e24]
      refine ⟨h53, by omega, fun u u0 u1 => ?_, ?_, fun i i0 i1 => ?_, fun i j i0 i1 j1 => ?_, fun u u0 u1 u2 => ?_⟩
      · by_cases c : u = w
        · rw [c, xup_s]
          exact Or.inr rfl
        · rw [xup_i _ _ _ c]
          exact h25 u u0 u1
      · have su := zsum_up (S 25) (xup S 25 w 1 25) w 148 hw.1 (fun j hj => xup_i _ _ _ hj)
        rw [if_pos (by omega), xup_s, e] at su
        omega
      · by_cases c : i = S 54 0
        · rw [c, if_pos rfl, xup_s]
          exact ⟨hw, rfl⟩
        · rw [if_neg (by omega)]
          obtain ⟨x1, x2⟩ := hq i i0 (by omega)
          refine ⟨x1, ?_⟩
          by_cases d : S 24 ((S 53 0 + i) % 148) = w
          · rw [d, xup_s]
          · rw [xup_i _ _ _ d]
            exact x2
      · rw [if_neg (by omega : ¬ (S 53 0 + i) % 148 = (S 53 0 + S 54 0) % 148)]
        by_cases c : j = S 54 0
        · rw [c, if_pos rfl]
          intro q
          have := (hq i i0 (by omega)).2
          rw [q, e] at this
          omega
        · rw [if_neg (by omega)]
          exact hd i j i0 i1 (by omega)
      · by_cases c : u = w
        · exact ⟨S 54 0, by omega, by rw [if_pos rfl, c]⟩
        · rw [xup_i _ _ _ c] at u2
          obtain ⟨i, i0, i1⟩ := hf u u0 u1 u2
          exact ⟨i, by omega, by rw [if_neg (by omega)]; exact i1⟩
    · rw [xup_q _ _ _ (by decide : (25 : Nat) ≠ 54), xup_q _ _ _ (by decide : (25 : Nat) ≠ 24)]
      by_cases c : j = w
      · rw [if_pos c, c, xup_s]
      · rw [if_neg c, xup_i _ _ _ c]
    · rw [xup_s]
      omega
    · rw [xup_q _ _ _ (by decide : (24 : Nat) ≠ 54), xup_i _ _ _ (by omega), xup_q _ _ _ (by decide : (24 : Nat) ≠ 25)]
  · refine ⟨S, ?_, h, fun _ _ _ _ => rfl, fun j => ?_, Int.le_refl _, fun _ _ _ => rfl⟩
    · unfold m_X7_add
      simp (disch := omega) only [xr, xck_t, xck_T, if_pos, if_neg, if_true, if_false, xbs, or_true, true_or, and_true, true_and]
    · by_cases c : j = w
      · rw [if_pos c, c, e]
      · rw [if_neg c]
theorem p_take {S : xS} (h : zQu S) (hs : 0 < S 54 0) : ∃ S1, m_X7_take S = some (S 24 (S 53 0), S1) ∧ (0 ≤ S 24 (S 53 0) ∧ S 24 (S 53 0) < 148) ∧ zQu S1 ∧ (∀ q, q ≠ 25 → q ≠ 53 → q ≠ 54 → S1 q = S q) ∧ (∀ j, S1 25 j = if j = S 24 (S 53 0) then 0 else S 25 j) ∧ S1 53 0 = (S 53 0 + 1) % 148 ∧ S1 54 0 = S 54 0 - 1 := by
  obtain ⟨h53, h54, h25, hsum, hq, hd, hf⟩ := id h
  have q0 := hq 0 (by omega) hs
  rw [show (S 53 0 + 0) % 148 = S 53 0 by omega] at q0
  have hz := h.sz
  generalize hw : S 24 (S 53 0) = w at *
  refine ⟨xup (xup (xup S 25 w 0) 53 0 ((S 53 0 + 1) % 148)) 54 0 (S 54 0 - 1), ?_, q0.1, ?_, fun q q1 q2 q3 => by rw [xup_q _ _ _ q3, xup_q _ _ _ q2, xup_q _ _ _ q1], fun j => ?_, ?_, xup_s _ _ _ _⟩
  · unfold m_X7_take
    rw [hw]
    simp (disch := omega) only [xr, xck_t, xck_T, if_pos, if_neg, if_true, if_false, xbs, or_true, true_or, and_true, true_and]
  · have e24 : xup (xup (xup S 25 w 0) 53 0 ((S 53 0 + 1) % 148)) 54 0 (S 54 0 - 1) 24 = S 24 := by
      rw [xup_q _ _ _ (by decide : (24 : Nat) ≠ 54), xup_q _ _ _ (by decide : (24 : Nat) ≠ 53), xup_q _ _ _ (by decide : (24 : Nat) ≠ 25)]
    have e25 : xup (xup (xup S 25 w 0) 53 0 ((S 53 0 + 1) % 148)) 54 0 (S 54 0 - 1) 25 = xup S 25 w 0 25 := by
      rw [xup_q _ _ _ (by decide : (25 : Nat) ≠ 54), xup_q _ _ _ (by decide : (25 : Nat) ≠ 53)]
    have e53 : xup (xup (xup S 25 w 0) 53 0 ((S 53 0 + 1) % 148)) 54 0 (S 54 0 - 1) 53 0 = (S 53 0 + 1) % 148 := by
      rw [xup_q _ _ _ (by decide : (53 : Nat) ≠ 54), xup_s]
    have em : ∀ i, ((S 53 0 + 1) % 148 + i) % 148 = (S 53 0 + (i + 1)) % 148 := fun i => by omega
    have ne0 : ∀ i, 0 ≤ i → i < S 54 0 - 1 → S 24 ((S 53 0 + (i + 1)) % 148) ≠ w := fun i i0 i1 q => by
      have := hd 0 (i + 1) (by omega) (by omega) (by omega)
      rw [show (S 53 0 + 0) % 148 = S 53 0 by omega, hw] at this
      exact this q.symm
    unfold zQu
    rw [e24, e25, e53, xup_s]
    simp only [em]
    refine ⟨by omega, by omega, fun u u0 u1 => ?_, ?_, fun i i0 i1 => ?_, fun i j i0 i1 j1 => ?_, fun u u0 u1 u2 => ?_⟩
    · by_cases c : u = w
      · rw [c, xup_s]
        exact Or.inl rfl
      · rw [xup_i _ _ _ c]
        exact h25 u u0 u1
    · have su := zsum_up (S 25) (xup S 25 w 0 25) w 148 q0.1.1 (fun j hj => xup_i _ _ _ hj)
      rw [if_pos (by omega), xup_s, q0.2] at su
      omega
    · obtain ⟨x1, x2⟩ := hq (i + 1) (by omega) (by omega)
      refine ⟨x1, ?_⟩
      rw [xup_i _ _ _ (ne0 i i0 i1)]
      exact x2
    · exact hd (i + 1) (j + 1) (by omega) (by omega) (by omega)
    · by_cases c : u = w
      · rw [c, xup_s] at u2
        omega
      · rw [xup_i _ _ _ c] at u2
        obtain ⟨i, i0, i1⟩ := hf u u0 u1 u2
        have i00 : i ≠ 0 := fun q => by
          rw [q, show (S 53 0 + 0) % 148 = S 53 0 by omega, hw] at i1
          exact c i1.symm
        refine ⟨i - 1, by omega, ?_⟩
        rw [show i - 1 + 1 = i by omega]
        exact i1
  · rw [xup_q _ _ _ (by decide : (25 : Nat) ≠ 54), xup_q _ _ _ (by decide : (25 : Nat) ≠ 53)]
    by_cases c : j = w
    · rw [if_pos c, c, xup_s]
    · rw [if_neg c, xup_i _ _ _ c]
  · rw [xup_q _ _ _ (by decide : (53 : Nat) ≠ 54), xup_s]
/-- what holds while the class spreads; x: the wire that it spreads from just now -/
def zB (x : Int) (S : xS) : Prop := zFA S ∧ zQu S ∧ zDr 1048576 (S 20) ∧ zPr (S 19) ∧ (∀ w, 0 ≤ w → w < 148 → S 21 w = 0 ∨ S 21 w = 1) ∧ zDw 1048576 (S 21) (S 19) (S 20) ∧
  (∀ v s, zisch v → 1 ≤ s → s ≤ 4 → 0 ≤ zbc (zch v) s → zbc (zch v) s ≠ x → S 25 (zbc (zch v) s) = 0 → S 20 v ≤ S 20 (zbc (zch v) s) + S 19 v)
def zfd (S S1 : xS) : Prop := ∀ q, q ≠ 20 → q ≠ 24 → q ≠ 25 → q ≠ 54 → S1 q = S q
theorem zfd.rf (S : xS) : zfd S S := fun _ _ _ _ _ => rfl
theorem zfd.tr {A B C : xS} (a : zfd A B) (b : zfd B C) : zfd A C := fun q h1 h2 h3 h4 => by rw [b q h1 h2 h3 h4, a q h1 h2 h3 h4]
theorem zqp.rf (S : xS) : zqp S S := ⟨Int.le_refl _, fun _ _ _ => rfl⟩
theorem zqp.tr {A B C : xS} (a : zqp A B) (b : zqp B C) (e : B 53 = A 53) : zqp A C := by
  refine ⟨Int.le_trans a.1 b.1, fun i i0 i1 => ?_⟩
  have := b.2 i i0 (Int.lt_of_lt_of_le i1 a.1)
  rw [e] at this
  rw [this, a.2 i i0 i1]
theorem p_short {x : Int} {S : xS} (h : zB x S) {w dd : Int} (hw : 0 ≤ w ∧ w < 148) (hd : 0 ≤ dd ∧ dd ≤ 2000000) (hwit : S 21 w = 1 ∨ (zisch w ∧ ∃ s, (1 ≤ s ∧ s ≤ 4) ∧ 0 ≤ zbc (zch w) s ∧ S 20 (zbc (zch w) s) + S 19 w ≤ dd)) : ∃ S1, m_X4_shorten w dd S = some S1 ∧ zB x S1 ∧ zfd S S1 ∧ (∀ j, S1 20 j = if j = w ∧ dd < S 20 w then dd else S 20 j) ∧ zqp S S1 ∧ (S1 = S ∨ dd < S 20 w) := by
  obtain ⟨hA, hQ, hr, hp, ht, hw2, hs⟩ := id h
  have rw' := hr w hw.1 hw.2
  have pw := hp w hw.1 hw.2
  unfold m_X4_shorten
  by_cases c : S 20 w ≤ dd
  · refine ⟨S, by simp (disch := omega) only [xr, xck_t, xck_T, if_pos, if_neg, if_true, if_false, xbs, or_true, true_or, and_true, true_and], h, zfd.rf _, fun j => by rw [if_neg (by omega)], zqp.rf _, Or.inl rfl⟩
  · have hQ1 : zQu (xup S 20 w dd) := hQ.of (xup_q _ _ _ (by decide)) (xup_q _ _ _ (by decide)) (xup_q _ _ _ (by decide)) (xup_q _ _ _ (by decide))
    obtain ⟨S1, a1, a2, a3, a4, a5⟩ := p_add hQ1 hw
    have e20 : ∀ j, S1 20 j = if j = w ∧ dd < S 20 w then dd else S 20 j := fun j => by
      rw [a3 20 (by decide) (by decide) (by decide)]
      by_cases q : j = w
      · rw [if_pos (by omega), q, xup_s]
      · rw [if_neg (by omega), xup_i _ _ _ q]
    have e25 : ∀ j, S1 25 j = if j = w then 1 else S 25 j := fun j => by
      rw [a4 j, xup_q _ _ _ (by decide : (25 : Nat) ≠ 20)]
    have ef : zfd S S1 := fun q q1 q2 q3 q4 => by rw [a3 q q2 q3 q4, xup_q _ _ _ q1]
    have e19 := ef 19 (by decide) (by decide) (by decide) (by decide)
    have e21 := ef 21 (by decide) (by decide) (by decide) (by decide)
    have le20 : ∀ j, S1 20 j ≤ S 20 j := fun j => by
      rw [e20 j]
      by_cases q : j = w ∧ dd < S 20 w
      · rw [if_pos q, q.1]
        omega
      · rw [if_neg q]
        exact Int.le_refl _
    refine ⟨S1, ?_, ⟨?_, a2, fun j j0 j1 => ?_, by rw [e19]; exact hp, by rw [e21]; exact ht, fun j j0 j1 jt jk => ?_, fun v s v0 s0 s1 s2 s3 s4 => ?_⟩, ef, e20, ?_, Or.inr (by omega)⟩
    · simp (disch := omega) only [xr, xck_t, xck_T, if_pos, if_neg, if_true, if_false, xbs, or_true, true_or, and_true, true_and]
      rw [a1, xbs]
    · unfold zFA at hA ⊢
      rw [ef 2 (by decide) (by decide) (by decide) (by decide), ef 3 (by decide) (by decide) (by decide) (by decide)]
      exact hA
    · rw [e20 j]
      have := hr j j0 j1
      by_cases q : j = w ∧ dd < S 20 w
      · rw [if_pos q]
        omega
      · rw [if_neg q]
        exact this
    · rw [e21] at jt
      rw [e19]
      by_cases q : j = w
      · subst q
        rcases hwit with z | ⟨z1, s, z2, z3, z4⟩
        · exact absurd z jt
        · refine ⟨z1, s, z2, z3, ?_⟩
          have := le20 (zbc (zch j) s)
          rw [e20 j, if_pos ⟨rfl, by omega⟩]
          omega
      · rw [e20 j, if_neg (fun z => q z.1)] at jk ⊢
        obtain ⟨z1, s, z2, z3, z4⟩ := hw2 j j0 j1 jt jk
        refine ⟨z1, s, z2, z3, ?_⟩
        have := le20 (zbc (zch j) s)
        omega
    · rw [e25] at s4
      have une : zbc (zch v) s ≠ w := fun q => by
        rw [if_pos q] at s4
        omega
      rw [if_neg une] at s4
      have := hs v s v0 s0 s1 s2 s3 s4
      have l := le20 v
      rw [e19, e20 (zbc (zch v) s), if_neg (fun q => une q.1)]
      omega
    · have e := a5
      unfold zqp at e ⊢
      rw [xup_q _ _ _ (by decide : (54 : Nat) ≠ 20), xup_q _ _ _ (by decide : (53 : Nat) ≠ 20), xup_q _ _ _ (by decide : (24 : Nat) ≠ 20)] at e
      exact e
theorem p_after {S : xS} (hA : zFA S) {w k : Int} (hw : 0 ≤ w ∧ w < 148) (hk : 0 ≤ k ∧ k < 8) : m_X1_channelAfter w k S = some (if k < S 3 w then S 2 (w * 8 + k) else -1) := by
  have h3 := hA.1 w hw.1 hw.2
  unfold m_X1_channelAfter
  by_cases c : k < S 3 w
  · rw [if_pos c]
    simp (disch := omega) only [xr, xck_t, xck_T, if_pos, if_neg, if_true, if_false, xbs, or_true, true_or, and_true, true_and]
  · rw [if_neg c]
    simp (disch := omega) only [xr, xck_t, xck_T, if_pos, if_neg, if_true, if_false, xbs, or_true, true_or, and_true, true_and]
theorem p_spr1 {x : Int} (hx : 0 ≤ x ∧ x < 148) : ∀ (d n : Nat) (k : Int) (S : xS), zB x S → 0 ≤ k → k + d = 8 → d < n → (∀ i, 0 ≤ i → i < k → i < S 3 x → S 20 (S 2 (x * 8 + i)) ≤ S 20 x + S 19 (S 2 (x * 8 + i))) →
    ∃ S1, m_X4_spreadFrom_L2 x n k S = some S1 ∧ zB x S1 ∧ zfd S S1 ∧ S1 20 x = S 20 x ∧ (∀ j, S1 20 j ≤ S 20 j) ∧ zqp S S1 ∧ (S1 = S ∨ ∃ j, (0 ≤ j ∧ j < 148) ∧ S1 20 j < S 20 j) ∧ (∀ i, 0 ≤ i → i < S 3 x → S1 20 (S 2 (x * 8 + i)) ≤ S 20 x + S 19 (S 2 (x * 8 + i))) := by
  intro d
  induction d with
  | zero =>
    intro n k S h h0 h1 h2 hk
    obtain ⟨n, rfl⟩ : ∃ j, n = j + 1 := ⟨n - 1, by omega⟩
    have h3 := h.1.1 x hx.1 hx.2
    refine ⟨S, ?_, h, zfd.rf _, rfl, fun _ => Int.le_refl _, zqp.rf _, Or.inl rfl, fun i i0 i1 => hk i i0 (by omega) i1⟩
    unfold m_X4_spreadFrom_L2
    simp (disch := omega) only [xr, xck_t, xck_T, if_pos, if_neg, if_true, if_false, xbs, or_true, true_or, and_true, true_and]
  | succ d ih =>
    intro n k S h h0 h1 h2 hk
    obtain ⟨n, rfl⟩ : ∃ j, n = j + 1 := ⟨n - 1, by omega⟩
    have ea := p_after h.1 (w := x) (k := k) hx ⟨h0, by omega⟩
    by_cases c : k < S 3 x
    · rw [if_pos c] at ea
      obtain ⟨c1, s, s0, s1, s2⟩ := h.1.2.1 x k hx.1 hx.2 h0 c
      have c2 := zisch_in c1
      generalize hv : S 2 (x * 8 + k) = v at *
      have r20 := h.2.2.1 x hx.1 hx.2
      have p19 := h.2.2.2.1 v c2.1 c2.2
      obtain ⟨S1, a1, a2, a3, a4, a5, a6⟩ := p_short h (w := v) (dd := S 20 x + S 19 v) c2 ⟨by omega, by omega⟩ (Or.inr ⟨c1, s, ⟨s0, s1⟩, by rw [s2]; exact hx.1, by rw [s2]; exact Int.le_refl _⟩)
      have e2 := a3 2 (by decide) (by decide) (by decide) (by decide)
      have e3 := a3 3 (by decide) (by decide) (by decide) (by decide)
      have e19 := a3 19 (by decide) (by decide) (by decide) (by decide)
      have e53 := a3 53 (by decide) (by decide) (by decide) (by decide)
      have ex : S1 20 x = S 20 x := by
        rw [a4 x]
        by_cases q : x = v ∧ S 20 x + S 19 v < S 20 v
        · have q2 := q.2
          rw [← q.1] at q2 p19
          omega
        · rw [if_neg q]
      have le : ∀ j, S1 20 j ≤ S 20 j := fun j => by
        rw [a4 j]
        by_cases q : j = v ∧ S 20 x + S 19 v < S 20 v
        · rw [if_pos q, q.1]
          omega
        · rw [if_neg q]
          exact Int.le_refl _
      have lv : S1 20 v ≤ S 20 x + S 19 v := by
        rw [a4 v]
        by_cases q : S 20 x + S 19 v < S 20 v
        · rw [if_pos ⟨rfl, q⟩]
          exact Int.le_refl _
        · rw [if_neg (fun z => q z.2)]
          omega
      obtain ⟨S2, i1, i2, i3, i4, i5, i6, i7, i8⟩ := ih n (k + 1) S1 a2 (by omega) (by omega) (by omega) (fun i i0 i1 i2 => by
        rw [e3] at i2
        rw [e2, e19, ex]
        by_cases q : i = k
        · rw [q, hv]
          exact lv
        · have := hk i i0 (by omega) i2
          have := le (S 2 (x * 8 + i))
          omega)
      rw [e3, e2, e19, ex] at i8
      refine ⟨S2, ?_, i2, a3.tr i3, by rw [i4, ex], fun j => Int.le_trans (i5 j) (le j), a5.tr i6 e53, ?_, i8⟩
      · unfold m_X4_spreadFrom_L2
        rw [ea, xbs]
        simp (disch := omega) only [xr, xck_t, xck_T, if_pos, if_neg, if_true, if_false, xbs, or_true, true_or, and_true, true_and, a1]
        exact i1
      · rcases i7 with q | ⟨j, j0, j1⟩
        · rcases a6 with q2 | q2
          · exact Or.inl (by rw [q, q2])
          · right
            refine ⟨v, c2, ?_⟩
            rw [q, a4 v, if_pos ⟨rfl, q2⟩]
            exact q2
        · exact Or.inr ⟨j, j0, Int.lt_of_lt_of_le j1 (le j)⟩
    · rw [if_neg c] at ea
      refine ⟨S, ?_, h, zfd.rf _, rfl, fun _ => Int.le_refl _, zqp.rf _, Or.inl rfl, fun i i0 i1 => hk i i0 (by omega) i1⟩
      unfold m_X4_spreadFrom_L2
      rw [ea]
      simp (disch := omega) only [xr, xck_t, xck_T, if_pos, if_neg, if_true, if_false, xbs, or_true, true_or, and_true, true_and]
def zfe (S S1 : xS) : Prop := ∀ q, q ≠ 20 → q ≠ 24 → q ≠ 25 → q ≠ 53 → q ≠ 54 → S1 q = S q
theorem zfe.rf (S : xS) : zfe S S := fun _ _ _ _ _ _ => rfl
theorem zfe.tr {A B C : xS} (a : zfe A B) (b : zfe B C) : zfe A C := fun q h1 h2 h3 h4 h5 => by rw [b q h1 h2 h3 h4 h5, a q h1 h2 h3 h4 h5]
/-- one wire taken and spread from -/
theorem p_step {S : xS} (h : zB (-1) S) (hs : 0 < S 54 0) : ∃ S0 S1, m_X7_take S = some (S 24 (S 53 0), S0) ∧ m_X4_spreadFrom (S 24 (S 53 0)) S0 = some S1 ∧ zB (-1) S1 ∧ zfe S S1 ∧ (∀ j, S1 20 j ≤ S 20 j) ∧ (∀ v s, zisch v → 1 ≤ s → s ≤ 4 → zbc (zch v) s = S 24 (S 53 0) → S1 20 v ≤ S 20 (S 24 (S 53 0)) + S 19 v) ∧ S1 53 0 = (S 53 0 + 1) % 148 ∧ S 54 0 - 1 ≤ S1 54 0 ∧ (∀ i, 0 ≤ i → i < S 54 0 - 1 → S1 24 ((S1 53 0 + i) % 148) = S 24 ((S 53 0 + (i + 1)) % 148)) ∧ (S1 54 0 = S 54 0 - 1 ∨ ∃ j, (0 ≤ j ∧ j < 148) ∧ S1 20 j < S 20 j) := by
  obtain ⟨hA, hQ, hr, hp, ht, hw2, hst⟩ := id h
  obtain ⟨S0, a1, a2, a3, a4, a5, a6, a7⟩ := p_take hQ hs
  generalize hx : S 24 (S 53 0) = x at *
  have e2 := a4 2 (by decide) (by decide) (by decide)
  have e3 := a4 3 (by decide) (by decide) (by decide)
  have e19 := a4 19 (by decide) (by decide) (by decide)
  have e20 := a4 20 (by decide) (by decide) (by decide)
  have e21 := a4 21 (by decide) (by decide) (by decide)
  have e24 := a4 24 (by decide) (by decide) (by decide)
  have hB : zB x S0 := by
    unfold zB
    rw [e19, e20, e21]
    refine ⟨by unfold zFA at hA ⊢; rw [e2, e3]; exact hA, a3, hr, hp, ht, hw2, fun v s v0 s0 s1 s2 s3 s4 => ?_⟩
    rw [a5, if_neg s3] at s4
    exact hst v s v0 s0 s1 s2 (by omega) s4
  obtain ⟨S1, b1, b2, b3, b4, b5, b6, b7, b8⟩ := p_spr1 a2 8 2000 0 S0 hB (by omega) (by omega) (by omega) (fun i i0 i1 => by omega)
  rw [e3, e2, e19, e20] at b8
  rw [e20] at b4 b7
  have b5 : ∀ j, S1 20 j ≤ S 20 j := fun j => by
    have := b5 j
    rw [e20] at this
    exact this
  have f19 : S1 19 = S 19 := by rw [b3 19 (by decide) (by decide) (by decide) (by decide), e19]
  have f53 : S1 53 = S0 53 := b3 53 (by decide) (by decide) (by decide) (by decide)
  have rel : ∀ v s, zisch v → 1 ≤ s → s ≤ 4 → zbc (zch v) s = x → S1 20 v ≤ S 20 x + S 19 v := fun v s v0 s0 s1 s2 => by
    obtain ⟨n, n0, n1, n2⟩ := hA.2.2 v s v0 s0 s1 (by rw [s2]; exact a2.1)
    rw [s2] at n1 n2
    have := b8 n n0 n1
    rw [n2] at this
    exact this
  refine ⟨S0, S1, a1, ?_, ?_, fun q q1 q2 q3 q4 q5 => by rw [b3 q q1 q2 q3 q5, a4 q q3 q4 q5], b5, rel, by rw [f53, a6], by rw [← a7]; exact b6.1, fun i i0 i1 => ?_, ?_⟩
  · unfold m_X4_spreadFrom
    rw [b1, xbs]
  · obtain ⟨c1, c2, c3, c4, c5, c6, c7⟩ := b2
    refine ⟨c1, c2, c3, c4, c5, c6, fun v s v0 s0 s1 s2 s3 s4 => ?_⟩
    by_cases q : zbc (zch v) s = x
    · have := rel v s v0 s0 s1 q
      rw [q, b4, f19]
      exact this
    · exact c7 v s v0 s0 s1 s2 q s4
  · have := b6.2 i i0 (by rw [a7]; exact i1)
    rw [f53, this, a6, e24]
    congr 1
    omega
  · rcases b7 with q | ⟨j, j0, j1⟩
    · left
      rw [q, a7]
    · exact Or.inr ⟨j, j0, j1⟩
