/-! longest: rounds; the model's sweeps -/
theorem p_rnX {V T : xS} (hR : zRel V T) (hO : zO (V 29) (V 30)) : ∀ (d n v : Nat) (left M : Int) (S : xS) (α : Int → Int), (∀ q, q ≠ 31 → q ≠ 32 → S q = V q) → v + d = 16 → d < n → 0 ≤ M → M + 6400 * d ≤ 1000000 → zC (T 1) (V 29) (V 30) (S 32) α → zI (S 31) α → zM α M → left = 16 - zsum (S 32) 16 → (∀ t, 0 ≤ t → t < 16 → S 32 t = 1 → yit (T 1) (V 29) (V 30) (v + 1) t = α t) → ((∀ t, zStuck (T 1) (V 29) (S 32) 0 t) ∨ left + v ≤ 16) →
    ∃ S1 α1 left1, m_X6_timeOutlets_L56 n left v S = some (left1, S1) ∧ (∀ q, q ≠ 31 → q ≠ 32 → S1 q = V q) ∧ zC (T 1) (V 29) (V 30) (S1 32) α1 ∧ zI (S1 31) α1 ∧ zM α1 (M + 6400 * d) ∧ left1 = 16 - zsum (S1 32) 16 ∧ (∃ j, j ≤ 17 ∧ ∀ t, 0 ≤ t → t < 16 → S1 32 t = 1 → yit (T 1) (V 29) (V 30) j t = α1 t) ∧ ((∀ t, zStuck (T 1) (V 29) (S1 32) 0 t) ∨ left1 = 0) := by
  intro d
  induction d with
  | zero =>
    intro n v left M S α hF hv hn hM0 hM1 hC hV hM hl hs hx
    obtain ⟨n, rfl⟩ : ∃ j, n = j + 1 := ⟨n - 1, by omega⟩
    have hv16 : v = 16 := by omega
    subst hv16
    have hlb := zsum_le (S 32) 16 (fun j j0 j1 => by have := (hC j j0 (by omega)).1; omega)
    refine ⟨S, α, left, ?_, hF, hC, hV, fun t h0 h1 => by have := hM t h0 h1; omega, hl, ⟨17, by omega, hs⟩, ?_⟩
    · unfold m_X6_timeOutlets_L56
      simp (disch := omega) only [xr, xck_t, xck_T, if_pos, if_neg, if_true, if_false, xbs, or_true, true_or, and_true, true_and]
    · rcases hx with hx | hx
      · exact Or.inl hx
      · exact Or.inr (by omega)
  | succ d ih =>
    intro n v left M S α hF hv hn hM0 hM1 hC hV hM hl hs hx
    obtain ⟨n, rfl⟩ : ∃ j, n = j + 1 := ⟨n - 1, by omega⟩
    have hlb := zsum_le (S 32) 16 (fun j j0 j1 => by have := (hC j j0 (by omega)).1; omega)
    unfold m_X6_timeOutlets_L56
    by_cases h0 : left ≤ 0
    · refine ⟨S, α, left, ?_, hF, hC, hV, fun t h0 h1 => by have := hM t h0 h1; omega, hl, ⟨v + 1, by omega, hs⟩, Or.inr (by omega)⟩
      simp (disch := omega) only [xr, xck_t, xck_T, if_pos, if_neg, if_true, if_false, xbs, or_true, true_or, and_true, true_and]
    · obtain ⟨S1, α1, left1, a1, a2, a3, a4, a5, a6, a7, a8, a9, a10⟩ := p_swX hR hO v (yit (T 1) (V 29) (V 30) (v + 1)) 16 2000 0 left M S α hF (by omega) (by omega) hM0 (by omega) hC hV hM hl (fun t t0 t1 hk => hs t t0 t1 hk)
      obtain ⟨S2, α2, left2, b1, b2, b3, b4, b5, b6, b7, b8⟩ := ih n (v + 1) left1 (M + 6400) S1 α1 a2 (by omega) (by omega) (by omega) (by omega) a3 a4 (fun t t0 t1 => by have := a5 t t0 t1; omega) a6 (fun t t0 t1 hk => a7 t t0 t1 hk) (by
        by_cases c : left1 = left
        · obtain ⟨c1, c2⟩ := a9 c
          rw [c1]
          exact Or.inl c2
        · rcases hx with hx | hx
          · exact absurd (a10 hx) c
          · exact Or.inr (by omega))
      refine ⟨S2, α2, left2, ?_, b2, b3, b4, fun t t0 t1 => by have := b5 t t0 t1; omega, b6, b7, b8⟩
      simp (disch := omega) only [xr, xck_t, xck_T, if_pos, if_neg, if_true, if_false, xbs, or_true, true_or, and_true, true_and]
      have a1' : m_X6_timeOutlets_L68 v 2000 left 0 S = some (left1, S1) := a1
      rw [a1', xbs, show (v : Int) + 1 = ((v + 1 : Nat) : Int) by omega]
      exact b1
theorem p_fmL4 {V T : xS} (hR : zRel V T) : ∀ (d n v : Nat) (left : Int) (S : xS), (∀ q, q ≠ 31 → q ≠ 32 → S q = V q) → v + d = 16 → d < n → (∀ t, 0 ≤ t → t < (v : Int) → S 32 t = T 1 t ∧ S 31 t = 4) → left = v - zsum (T 1) v →
    ∃ S1, m_X6_timeOutlets_L4 n left v S = some (16 - zsum (T 1) 16, S1) ∧ (∀ q, q ≠ 31 → q ≠ 32 → S1 q = V q) ∧ (∀ t, 0 ≤ t → t < 16 → S1 32 t = T 1 t ∧ S1 31 t = 4) := by
  intro d
  induction d with
  | zero =>
    intro n v left S hF hv hn hd hl
    obtain ⟨n, rfl⟩ : ∃ j, n = j + 1 := ⟨n - 1, by omega⟩
    have hv16 : v = 16 := by omega
    subst hv16
    refine ⟨S, ?_, hF, hd⟩
    unfold m_X6_timeOutlets_L4
    rw [hl]
    simp (disch := omega) only [xr, xck_t, xck_T, if_pos, if_neg, if_true, if_false, xbs, or_true, true_or, and_true, true_and]
    rfl
  | succ d ih =>
    intro n v left S hF hv hn hd hl
    obtain ⟨n, rfl⟩ : ∃ j, n = j + 1 := ⟨n - 1, by omega⟩
    have hvi : 0 ≤ (v : Int) ∧ (v : Int) < 16 := by omega
    have hS : zRel S T := hR.of (fun q hq => hF q (by omega) (by omega)) (fun _ _ => rfl)
    obtain ⟨e1, e2⟩ := p_reg hS hvi
    obtain ⟨S1, a1, a2, a3⟩ := ih n (v + 1) (left + (if T 1 v = 0 then 1 else 0)) (xup (xup S 32 v (T 1 v)) 31 v 4) (fun q q1 q2 => by rw [xup_q _ _ _ q1, xup_q _ _ _ q2]; exact hF q q1 q2) (by omega) (by omega) (by
      intro t t0 t1
      by_cases c : t = (v : Int)
      · subst c
        rw [xup_q _ _ _ (by decide : (32 : Nat) ≠ 31), xup_s, xup_s]
        exact ⟨rfl, rfl⟩
      · rw [xup_q _ _ _ (by decide : (32 : Nat) ≠ 31), xup_i _ _ _ c, xup_i _ _ _ c, xup_q _ _ _ (by decide : (31 : Nat) ≠ 32)]
        exact hd t t0 (by omega)) (by
      show _ = ((v + 1 : Nat) : Int) - (zsum (T 1) v + T 1 v)
      rcases e2 with e2 | e2
      · rw [if_pos e2]
        omega
      · rw [if_neg (by omega)]
        omega)
    refine ⟨S1, ?_, a2, a3⟩
    unfold m_X6_timeOutlets_L4
    rw [show (v : Int) + 1 = ((v + 1 : Nat) : Int) by omega] 
    rcases e2 with e2 | e2
    · rw [e2] at e1 a1
      simp (disch := omega) only [xr, xck_t, xck_T, if_pos, if_neg, if_true, if_false, xbs, or_true, true_or, and_true, true_and, e1, xup_s]
      rw [if_pos rfl] at a1
      exact a1
    · rw [e2] at e1 a1
      simp (disch := omega) only [xr, xck_t, xck_T, if_pos, if_neg, if_true, if_false, xbs, or_true, true_or, and_true, true_and, e1, xup_s]
      rw [if_neg (by decide)] at a1
      exact a1
theorem p_tmX {V T : xS} (hR : zRel V T) (hO : zO (V 29) (V 30)) : ∃ S1 α1 r, m_X6_timeOutlets V = some (r, S1) ∧ (∀ q, q ≠ 31 → q ≠ 32 → S1 q = V q) ∧ zI (S1 31) α1 ∧ zM α1 200000 ∧
    ((r = 1 ∧ yfix (T 1) (V 29) (V 30) (yit (T 1) (V 29) (V 30) 17) ∧ ∀ t, 0 ≤ t → t < 16 → yit (T 1) (V 29) (V 30) 17 t = α1 t) ∨ (r = 0 ∧ ∀ τ, zO (V 29) (V 30) → (∀ t, 0 ≤ t → t < 16 → 0 ≤ τ t) → ¬ yfix (T 1) (V 29) (V 30) τ)) := by
  obtain ⟨S0, a1, a2, a3⟩ := p_fmL4 hR 16 2000 0 0 V (fun _ _ _ => rfl) (by omega) (by omega) (fun t t0 t1 => by omega) rfl
  have hg : ∀ t, 0 ≤ t → t < 16 → T 1 t = 0 ∨ T 1 t = 1 := fun t t0 t1 => (p_reg hR ⟨t0, t1⟩).2
  have hlb := zsum_le (T 1) 16 (fun j j0 j1 => by have := hg j j0 (by omega); omega)
  have hz : zsum (S0 32) 16 = zsum (T 1) 16 := zsum_ext _ _ 16 (fun j j0 j1 => (a3 j j0 (by omega)).1)
  obtain ⟨S1, α1, left1, b1, b2, b3, b4, b5, b6, ⟨j, hj, b7⟩, b8⟩ := p_rnX hR hO 16 2000 0 (16 - zsum (T 1) 16) 4 S0 (fun _ => 4) a2 (by omega) (by omega) (by omega) (by omega)
    (fun t t0 t1 => by
      obtain ⟨c1, c2⟩ := a3 t t0 t1
      rw [c1]
      refine ⟨hg t t0 t1, fun h => h, fun h => ⟨?_, fun h0 => by omega⟩⟩
      unfold qnx
      rw [if_neg (by omega)])
    (fun t t0 t1 => (a3 t t0 t1).2)
    (fun t t0 t1 => by show (0 : Int) ≤ 4 ∧ (4 : Int) ≤ 4; omega)
    (by rw [hz])
    (fun t t0 t1 hk => ysw_reg 16 t t0 (by omega) (by rw [← (a3 t t0 t1).1]; exact hk))
    (Or.inr (by omega))
  have hl1 := zsum_le (S1 32) 16 (fun j j0 j1 => by have := (b3 j j0 (by omega)).1; omega)
  have a1' : m_X6_timeOutlets_L4 2000 0 0 V = some (16 - zsum (T 1) 16, S0) := a1
  have b1' : m_X6_timeOutlets_L56 2000 (16 - zsum (T 1) 16) 0 S0 = some (left1, S1) := b1
  by_cases h0 : left1 = 0
  · have hall := hl1.2.2 (by omega)
    have hfix : yfix (T 1) (V 29) (V 30) (yit (T 1) (V 29) (V 30) j) := by
      intro t t0 t1
      rw [b7 t t0 t1 (hall t t0 (by omega)), ((b3 t t0 t1).2.2 (hall t t0 (by omega))).1]
      exact qnx_ext (fun _ p p0 p1 o0 o1 => (b7 _ o0 o1 (hall _ o0 (by omega))).symm)
    have he : yit (T 1) (V 29) (V 30) 17 = yit (T 1) (V 29) (V 30) j := by
      have := yit_fix hfix (17 - j)
      rw [show j + (17 - j) = 17 by omega] at this
      exact this
    refine ⟨S1, α1, 1, ?_, b2, b4, fun t t0 t1 => by have := b5 t t0 t1; omega, Or.inl ⟨rfl, by rw [he]; exact hfix, fun t t0 t1 => ?_⟩⟩
    · unfold m_X6_timeOutlets
      rw [a1', xbs, b1', xbs]
      simp (disch := omega) only [xr, xck_t, xck_T, if_pos, if_neg, if_true, if_false, xbs, or_true, true_or, and_true, true_and]
    · rw [he]
      exact b7 t t0 t1 (hall t t0 (by omega))
  · refine ⟨S1, α1, 0, ?_, b2, b4, fun t t0 t1 => by have := b5 t t0 t1; omega, Or.inr ⟨rfl, fun τ _ hp hf => ?_⟩⟩
    · unfold m_X6_timeOutlets
      rw [a1', xbs, b1', xbs]
      simp (disch := omega) only [xr, xck_t, xck_T, if_pos, if_neg, if_true, if_false, xbs, or_true, true_or, and_true, true_and]
    · have hst : ∀ t, zStuck (T 1) (V 29) (S1 32) 0 t := by
        rcases b8 with h | h
        · exact h
        · exact absurd h h0
      -- an endless way down
      have down : ∀ n : Nat, ∀ t, 0 ≤ t → t < 16 → S1 32 t = 0 → ¬ τ t ≤ n := by
        intro n
        induction n with
        | zero =>
          intro t t0 t1 hk hle
          obtain ⟨hg0, p, p0, p1, o0, o1, hk2⟩ := hst t t0 t1 hk
          have e := hf t t0 t1
          unfold qnx at e
          rw [if_pos hg0] at e
          omega
        | succ n ih =>
          intro t t0 t1 hk hle
          obtain ⟨hg0, p, p0, p1, o0, o1, hk2⟩ := hst t t0 t1 hk
          have e := hf t t0 t1
          unfold qnx at e
          rw [if_pos hg0] at e
          refine ih _ o0 o1 hk2 ?_
          have hL := (hO (t * 3 + p) (by omega) (by omega)).2
          have hq : qarr (V 29) (V 30) τ (t * 3 + p) = τ (V 29 (t * 3 + p)) + 3 * V 30 (t * 3 + p) := by
            unfold qarr
            rw [if_neg (by omega), if_neg (by omega)]
          have hle2 : qarr (V 29) (V 30) τ (t * 3 + p) ≤ qlat (V 29) (V 30) τ t := by
            unfold qlat
            rcases (show p = 0 ∨ p = 0 + 1 ∨ p = 0 + 1 + 1 by omega) with rfl | rfl | rfl <;> omega
          omega
      have hex : ∃ t, (0 ≤ t ∧ t < 16) ∧ S1 32 t = 0 := by
        apply Classical.byContradiction
        intro hno
        apply h0
        have h1 : zsum (S1 32) 16 = zsum (fun _ => 1) 16 := zsum_ext _ _ 16 (fun j j0 j1 => by
          rcases (b3 j j0 (by omega)).1 with h | h
          · exact absurd ⟨j, ⟨j0, by omega⟩, h⟩ hno
          · exact h)
        have h2 : zsum (fun _ => 1) 16 = 16 := by decide
        omega
      obtain ⟨t, ⟨t0, t1⟩, hk⟩ := hex
      exact down (τ t).toNat t t0 t1 hk (by have := hp t t0 t1; omega)
