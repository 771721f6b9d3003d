/-! routing: the class's distances are the model's -/
theorem p_seed : ∀ (d n : Nat) (w : Int) (S : xS), zB (-1) S → 0 ≤ w → w + d = 148 → d < n → (∀ u, 0 ≤ u → u < w → S 21 u = 1 → S 20 u = 0) →
    ∃ S1, m_X4_spread_L2 n w S = some S1 ∧ zB (-1) S1 ∧ zfd S S1 ∧ zDt (S 21) (S1 20) := by
  intro d
  induction d with
  | zero =>
    intro n w S h h0 h1 h2 hz
    obtain ⟨n, rfl⟩ : ∃ j, n = j + 1 := ⟨n - 1, by omega⟩
    refine ⟨S, ?_, h, zfd.rf _, fun u u0 u1 => hz u u0 (by omega)⟩
    unfold m_X4_spread_L2
    simp (disch := omega) only [xr, xck_t, xck_T, if_pos, if_neg, if_true, if_false, xbs, or_true, true_or, and_true, true_and]
  | succ d ih =>
    intro n w S h h0 h1 h2 hz
    obtain ⟨n, rfl⟩ : ∃ j, n = j + 1 := ⟨n - 1, by omega⟩
    have tw := h.2.2.2.2.1 w h0 (by omega)
    have rw' := h.2.2.1 w h0 (by omega)
    unfold m_X4_spread_L2
    rcases tw with t | t
    · obtain ⟨S1, i1, i2, i3, i4⟩ := ih n (w + 1) S h (by omega) (by omega) (by omega) (fun u u0 u1 ut => by
        by_cases q : u = w
        · rw [q, t] at ut
          omega
        · exact hz u u0 (by omega) ut)
      refine ⟨S1, ?_, i2, i3, i4⟩
      simp (disch := omega) only [xr, xck_t, xck_T, if_pos, if_neg, if_true, if_false, xbs, or_true, true_or, and_true, true_and]
      exact i1
    · obtain ⟨S1, a1, a2, a3, a4, a5, a6⟩ := p_short h (w := w) (dd := 0) ⟨h0, by omega⟩ ⟨by omega, by omega⟩ (Or.inl t)
      have e21 := a3 21 (by decide) (by decide) (by decide) (by decide)
      obtain ⟨S2, i1, i2, i3, i4⟩ := ih n (w + 1) S1 a2 (by omega) (by omega) (by omega) (fun u u0 u1 ut => by
        rw [e21] at ut
        rw [a4 u]
        by_cases q : u = w
        · by_cases q2 : 0 < S 20 w
          · rw [if_pos ⟨q, q2⟩]
          · rw [if_neg (fun z => q2 z.2), q]
            omega
        · rw [if_neg (fun z => q z.1)]
          exact hz u u0 (by omega) ut)
      rw [e21] at i4
      refine ⟨S2, ?_, i2, a3.tr i3, i4⟩
      simp (disch := omega) only [xr, xck_t, xck_T, if_pos, if_neg, if_true, if_false, xbs, or_true, true_or, and_true, true_and, a1]
      exact i1
/-- how many wires have not yet their least distance -/
def zun (M : Int → Int) (S : xS) : Int := zsum (fun w => zi (M w < 1000000 ∧ S 20 w ≠ M w)) 148
theorem zsum_ex (f : Int → Int) (n : Nat) (h : ∀ j, 0 ≤ f j ∧ f j ≤ 1) (hs : 0 < zsum f n) : ∃ j, (0 ≤ j ∧ j < (n : Int)) ∧ f j = 1 := by
  apply Classical.byContradiction
  intro c
  rw [zsum_0 f n (fun j j0 j1 => by
    have := h j
    by_cases q : f j = 1
    · exact absurd ⟨j, ⟨j0, j1⟩, q⟩ c
    · omega)] at hs
  omega
/-- a wire that waits at place i, and one behind it that it will settle -/
def zCf (M : Int → Int) (S : xS) (i : Int) : Prop := (0 ≤ i ∧ i < S 54 0) ∧ ∃ v s, zisch v ∧ (1 ≤ s ∧ s ≤ 4) ∧ (0 ≤ zbc (zch v) s) ∧ M v < 1000000 ∧ S 20 v ≠ M v ∧ S 20 (zbc (zch v) s) = M (zbc (zch v) s) ∧ M (zbc (zch v) s) + S 19 v ≤ M v ∧ S 24 ((S 53 0 + i) % 148) = zbc (zch v) s
theorem p_cert {M : Int → Int} {S : xS} (h : zB (-1) S) (ht : zDt (S 21) (S 20)) (hM : zMd (S 21) (S 19) M) : ∀ (m : Nat) (v : Int), 0 ≤ v → v < 148 → M v < m → M v < 1000000 → S 20 v ≠ M v → ∃ i, zCf M S i := by
  intro m
  induction m with
  | zero =>
    intro v h0 h1 h2 h3 h4
    have := (hM.1 v h0 h1).1
    omega
  | succ m ih =>
    intro v h0 h1 h2 h3 h4
    by_cases c : S 21 v = 1
    · rw [ht v h0 h1 c, hM.2.1 v h0 h1 c] at h4
      exact absurd rfl h4
    · obtain ⟨e1, s, s1, s2, s3⟩ := hM.2.2.1 v h0 h1 c h3
      have pv := h.2.2.2.1 v h0 h1
      have hu := zbc_in (zch_in e1).1 s1
      by_cases d : S 20 (zbc (zch v) s) = M (zbc (zch v) s)
      · have h25 := h.2.1.2.2.1 _ s2 hu
        have g : S 25 (zbc (zch v) s) = 1 := by
          rcases h25 with z | z
          · have st := h.2.2.2.2.2.2 v s e1 s1.1 s1.2 s2 (by omega) z
            have cm := zcmp h.2.2.2.1 hM.2.1 hM.2.2.2 h.2.2.1 h.2.2.2.2.2.1 1048576 v h0 h1
            by_cases q : S 20 v < 1048576
            · have := cm (by omega) q
              omega
            · omega
          · exact z
        obtain ⟨i, i0, i1⟩ := h.2.1.2.2.2.2.2.2 _ s2 hu g
        exact ⟨i, i0, v, s, e1, s1, s2, h3, h4, d, s3, i1⟩
      · exact ih _ s2 hu (by omega) (by omega) d
theorem p_loop {M : Int → Int} {tr pr : Int → Int} (hM : zMd tr pr M) (hpr : zPr pr) : ∀ (m n : Nat) (k : Int) (S : xS), zB (-1) S → S 21 = tr → S 19 = pr → zDt tr (S 20) → (zun M S = 0 → S 54 0 ≤ m) → (0 < zun M S → ∃ i, zCf M S i ∧ (zun M S - 1) * 148 + 148 + i + 1 ≤ m) → 0 ≤ k → k + m ≤ 1000000 → m < n →
    ∃ S1, m_X4_spread_L32 n k S = some S1 ∧ zB (-1) S1 ∧ zfe S S1 ∧ zDt tr (S1 20) ∧ S1 54 0 = 0 := by
  intro m
  induction m with
  | zero =>
    intro n k S h e21 e19 ht hU0 hU1 h0 h1 h2
    obtain ⟨n, rfl⟩ : ∃ j, n = j + 1 := ⟨n - 1, by omega⟩
    have hu := zsum_le (fun w => zi (M w < 1000000 ∧ S 20 w ≠ M w)) 148 (fun j _ _ => zi_01 _)
    have hu0 : 0 ≤ zun M S := hu.1
    have h54 := h.2.1.2.1
    have e54 : S 54 0 = 0 := by
      by_cases q : zun M S = 0
      · have := hU0 q
        omega
      · obtain ⟨i, i1, i2⟩ := hU1 (by omega)
        have := i1.1
        omega
    refine ⟨S, ?_, h, zfe.rf _, ht, e54⟩
    unfold m_X4_spread_L32 m_X7_isEmpty
    by_cases q : 1000000 ≤ k
    · simp (disch := omega) only [xr, xck_t, xck_T, if_pos, if_neg, if_true, if_false, xbs, or_true, true_or, and_true, true_and]
    · simp (disch := omega) only [xr, xck_t, xck_T, if_pos, if_neg, if_true, if_false, xbs, or_true, true_or, and_true, true_and]
  | succ m ih =>
    intro n k S h e21 e19 ht hU0 hU1 h0 h1 h2
    obtain ⟨n, rfl⟩ : ∃ j, n = j + 1 := ⟨n - 1, by omega⟩
    have hu := zsum_le (fun w => zi (M w < 1000000 ∧ S 20 w ≠ M w)) 148 (fun j _ _ => zi_01 _)
    have hu0 : 0 ≤ zun M S := hu.1
    have h54 := h.2.1.2.1
    have h148 := h.2.1.sz.1
    unfold m_X4_spread_L32 m_X7_isEmpty
    by_cases e54 : S 54 0 = 0
    · refine ⟨S, ?_, h, zfe.rf _, ht, e54⟩
      simp (disch := omega) only [xr, xck_t, xck_T, if_pos, if_neg, if_true, if_false, xbs, or_true, true_or, and_true, true_and]
    · obtain ⟨S0, S1, a1, a2, a3, a4, a5, a6, a7, a8, a9, a10⟩ := p_step h (by omega)
      have f21 : S1 21 = tr := by rw [a4 21 (by decide) (by decide) (by decide) (by decide) (by decide), e21]
      have f19 : S1 19 = pr := by rw [a4 19 (by decide) (by decide) (by decide) (by decide) (by decide), e19]
      have ht1 : zDt tr (S1 20) := fun w w0 w1 wt => by
        have := ht w w0 w1 wt
        have := a5 w
        have := (a3.2.2.1 w w0 w1).1
        omega
      have hM1 : zMd (S1 21) (S1 19) M := by rw [f21, f19]; exact hM
      have ge : ∀ w, 0 ≤ w → w < 148 → S1 20 w < 1048576 → M w < 1000000 ∧ M w ≤ S1 20 w := fun w w0 w1 w2 => by
        have x1 := a3.2.2.2.2.2.1
        rw [f21, f19] at x1
        exact ⟨zfin hpr hM a3.2.2.1 x1 1048576 w w0 w1 (by omega) w2, zcmp hpr hM.2.1 hM.2.2.2 a3.2.2.1 x1 1048576 w w0 w1 (by omega) w2⟩
      have ge2 : ∀ w, 0 ≤ w → w < 148 → M w ≤ S1 20 w := fun w w0 w1 => by
        by_cases q : S1 20 w < 1048576
        · exact (ge w w0 w1 q).2
        · have := (hM.1 w w0 w1).2
          omega
      have hle : zun M S1 ≤ zun M S := zsum_mono _ _ 148 (fun w w0 w1 => by
        by_cases q : M w < 1000000 ∧ S 20 w ≠ M w
        · rw [zi_t q]
          exact (zi_01 _).2
        · rw [zi_f q, zi_f (fun z => q ⟨z.1, fun y => z.2 (by
            have := a5 w
            have := ge2 w w0 (by omega)
            omega)⟩)]
          exact Int.le_refl _)
      have hu1 := zsum_le (fun w => zi (M w < 1000000 ∧ S1 20 w ≠ M w)) 148 (fun j _ _ => zi_01 _)
      have hu10 : 0 ≤ zun M S1 := hu1.1
      have hz1 := a3.2.1.sz.1
      have new : 0 < zun M S1 → ∃ i, zCf M S1 i ∧ i < 148 := fun q => by
        obtain ⟨v, v0, v1⟩ := zsum_ex _ 148 (fun j => zi_01 _) q
        have v2 : M v < 1000000 ∧ S1 20 v ≠ M v := by
          by_cases z : M v < 1000000 ∧ S1 20 v ≠ M v
          · exact z
          · simp only [zi_f z] at v1
            omega
        obtain ⟨i, i1⟩ := p_cert a3 (by rw [f21]; exact ht1) hM1 1000000 v v0.1 (by omega) v2.1 v2.1 v2.2
        have := i1.1
        exact ⟨i, i1, by omega⟩
      have recu : (zun M S1 = 0 → S1 54 0 ≤ m) → (0 < zun M S1 → ∃ i, zCf M S1 i ∧ (zun M S1 - 1) * 148 + 148 + i + 1 ≤ m) → ∃ S2, (xck (xr k) (if 1000000 ≤ k then some S else (xck (xr (S 54 0)) (if S 54 0 = 0 then some (1 : Int) else some 0)).bind (fun r11 => xck (xr r11) (if r11 = 0 then (m_X7_take S).bind (fun r14 => (m_X4_spreadFrom r14.1 r14.2).bind (fun r15 => m_X4_spread_L32 n (k + 1) r15)) else some S)))) = some S2 ∧ zB (-1) S2 ∧ zfe S S2 ∧ zDt tr (S2 20) ∧ S2 54 0 = 0 := fun r1 r2 => by
        obtain ⟨S2, i1, i2, i3, i4, i5⟩ := ih n (k + 1) S1 a3 f21 f19 ht1 r1 r2 (by omega) (by omega) (by omega)
        refine ⟨S2, ?_, i2, a4.tr i3, i4, i5⟩
        simp (disch := omega) only [xr, xck_t, xck_T, if_pos, if_neg, if_true, if_false, xbs, or_true, true_or, and_true, true_and, a1, a2]
        exact i1
      apply recu
      · intro q
        by_cases z : zun M S = 0
        · have l := hU0 z
          rcases a10 with y | ⟨j, j0, j1⟩
          · omega
          · have hj := a3.2.2.1 j j0.1 j0.2
            have hj2 := (h.2.2.1 j j0.1 j0.2).2
            obtain ⟨g1, g2⟩ := ge j j0.1 j0.2 (by omega)
            have := zsum_pos (fun w => zi (M w < 1000000 ∧ S 20 w ≠ M w)) 148 (fun j _ _ => zi_01 _) j j0.1 j0.2 (zi_t ⟨g1, by omega⟩)
            have z2 : zsum (fun w => zi (M w < 1000000 ∧ S 20 w ≠ M w)) 148 = 0 := z
            omega
        · obtain ⟨i, i1, i2⟩ := hU1 (by omega)
          have := i1.1
          omega
      · intro q
        obtain ⟨i, i1, i2⟩ := hU1 (by omega)
        obtain ⟨i0, v, s, v0, s0, b0, mv, dv, du, md, qv⟩ := i1
        have hvr := zisch_in v0
        by_cases z : S1 20 v = M v
        · have lt : zun M S1 + 1 ≤ zun M S := zsum_lt _ _ v 148 (fun w w0 w1 => by
            by_cases y : M w < 1000000 ∧ S 20 w ≠ M w
            · simp only [zi_t y]
              exact (zi_01 _).2
            · simp only [zi_f y]
              rw [zi_f (fun z => y ⟨z.1, fun y => z.2 (by
                have := a5 w
                have := ge2 w w0 (by omega)
                omega)⟩)]
              exact Int.le_refl _) hvr.1 (by omega) (by
            simp only [zi_t (show M v < 1000000 ∧ S 20 v ≠ M v from ⟨mv, dv⟩)]
            rw [zi_f (fun y => y.2 z)]
            omega)
          obtain ⟨i', j1, j2⟩ := new q
          exact ⟨i', j1, by omega⟩
        · by_cases c0 : i = 0
          · exfalso
            rw [c0, show (S 53 0 + 0) % 148 = S 53 0 by have := h.2.1.1; omega] at qv
            have := a6 v s v0 s0.1 s0.2 qv.symm
            have g := ge2 v hvr.1 hvr.2
            rw [qv, du, e19] at this
            rw [e19] at md
            omega
          · refine ⟨i - 1, ⟨⟨by omega, by omega⟩, v, s, v0, s0, b0, mv, z, ?_, ?_, ?_⟩, by omega⟩
            · have hub := zbc_in (zch_in v0).1 s0
              have g := ge2 _ b0 hub
              have := a5 (zbc (zch v) s)
              omega
            · rw [f19]
              rw [e19] at md
              exact md
            · have := a9 (i - 1) (by omega) (by omega)
              rw [this, show i - 1 + 1 = i by omega]
              exact qv
theorem p_spread {M : Int → Int} {S : xS} (h : zB (-1) S) (hM : zMd (S 21) (S 19) M) : ∃ S1, m_X4_spread S = some S1 ∧ zB (-1) S1 ∧ zfe S S1 ∧ zQ S1 ∧ zDt (S 21) (S1 20) ∧ zDs (S1 19) (S1 20) ∧ zEq (S1 20) M := by
  have hp := h.2.2.2.1
  obtain ⟨S1, a1, a2, a3, a4⟩ := p_seed 148 2000 0 S h (by omega) (by omega) (by omega) (fun u u0 u1 => by omega)
  have e21 := a3 21 (by decide) (by decide) (by decide) (by decide)
  have e19 := a3 19 (by decide) (by decide) (by decide) (by decide)
  have hu1 := zsum_le (fun w => zi (M w < 1000000 ∧ S1 20 w ≠ M w)) 148 (fun j _ _ => zi_01 _)
  have hu2 : zun M S1 ≤ 148 := hu1.2.1
  have hz1 := a2.2.1.sz.1
  obtain ⟨S2, b1, b2, b3, b4, b5⟩ := p_loop hM hp 30000 1000002 0 S1 a2 e21 e19 a4 (fun _ => by omega) (fun q => by
    obtain ⟨v, v0, v1⟩ := zsum_ex _ 148 (fun j => zi_01 _) q
    have v2 : M v < 1000000 ∧ S1 20 v ≠ M v := by
      by_cases z : M v < 1000000 ∧ S1 20 v ≠ M v
      · exact z
      · simp only [zi_f z] at v1
        omega
    obtain ⟨i, i1⟩ := p_cert a2 (by rw [e21]; exact a4) (by rw [e21, e19]; exact hM) 1000000 v v0.1 (by omega) v2.1 v2.1 v2.2
    have := i1.1
    exact ⟨i, i1, by omega⟩) (by omega) (by omega) (by omega)
  have g21 : S2 21 = S 21 := by rw [b3 21 (by decide) (by decide) (by decide) (by decide) (by decide), e21]
  have g19 : S2 19 = S 19 := by rw [b3 19 (by decide) (by decide) (by decide) (by decide) (by decide), e19]
  have hq0 : ∀ w, 0 ≤ w → w < 148 → S2 25 w = 0 := fun w w0 w1 => by
    rcases b2.2.1.2.2.1 w w0 w1 with z | z
    · exact z
    · obtain ⟨i, i0, i1⟩ := b2.2.1.2.2.2.2.2.2 w w0 w1 z
      omega
  have hs : zDs (S2 19) (S2 20) := fun v s v0 s0 s1 s2 => b2.2.2.2.2.2.2 v s v0 s0 s1 s2 (by omega) (hq0 _ s2 (zbc_in (zch_in v0).1 ⟨s0, s1⟩))
  refine ⟨S2, ?_, b2, fun q q1 q2 q3 q4 q5 => by rw [b3 q q1 q2 q3 q4 q5, a3 q q1 q2 q3 q5], ⟨b5, b2.2.1.1, hq0⟩, b4, hs, ?_⟩
  · unfold m_X4_spread
    rw [a1, xbs, b1, xbs]
  · have w := b2.2.2.2.2.2.1
    rw [g21, g19] at w
    rw [g19] at hs
    exact zeq_of hp hM b2.2.2.1 b4 w hs
