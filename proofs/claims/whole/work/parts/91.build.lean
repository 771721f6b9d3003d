/-! build -/
theorem zTile.of {S T S1 T1 : xS} (h : zTile S T) (a : S1 26 = S 26) (b : S1 27 = S 27) (c0 : T1 0 = T 0) (c1 : T1 1 = T 1) (c2 : T1 2 = T 2) (c3 : T1 3 = T 3) (c4 : T1 4 = T 4) (c5 : T1 5 = T 5) : zTile S1 T1 := by
  unfold zTile zRng zenc at h ⊢
  rw [a, b, c0, c1, c2, c3, c4, c5]
  exact h
theorem zTrace.of {S T S1 T1 : xS} (h : zTrace S T) (a : S1 29 = S 29) (b : S1 30 = S 30) (c3 : T1 3 = T 3) (c4 : T1 4 = T 4) : zTrace S1 T1 := by
  unfold zTrace at h ⊢
  rw [a, b, c3, c4]
  exact h
theorem zRel.ofQ {S T S1 T1 : xS} (h : zRel S T) (hQ : zQ S1) (hS : ∀ q, (q ≤ 9 ∨ q = 26 ∨ q = 27 ∨ q = 29 ∨ q = 30 ∨ q = 33 ∨ q = 50 ∨ q = 52) → S1 q = S q) (hT : ∀ q, (q ≤ 12 ∨ q = 50 ∨ q = 51 ∨ q = 52) → T1 q = T q) : zRel S1 T1 := by
  obtain ⟨h1, h2, h3, h4, h5, h6, h7⟩ := h
  exact ⟨h1.of (hS 0 (by decide)) (hS 1 (by decide)), h2.of (hS 2 (by decide)) (hS 3 (by decide)), hQ, h4.of (hS 50 (by decide)) (hS 4 (by decide)) (hS 5 (by decide)) (hS 6 (by decide)) (hS 7 (by decide)) (hS 8 (by decide)) (hS 9 (by decide)) (hT 50 (by decide)) (hT 6 (by decide)) (hT 7 (by decide)) (hT 8 (by decide)) (hT 9 (by decide)) (hT 10 (by decide)) (hT 11 (by decide)), h5.of (hS 26 (by decide)) (hS 27 (by decide)) (hT 0 (by decide)) (hT 1 (by decide)) (hT 2 (by decide)) (hT 3 (by decide)) (hT 4 (by decide)) (hT 5 (by decide)), h6.of (hS 29 (by decide)) (hS 30 (by decide)) (hT 3 (by decide)) (hT 4 (by decide)), h7.of (hS 33 (by decide)) (hS 52 (by decide)) (hT 51 (by decide)) (hT 52 (by decide)) (hT 12 (by decide))⟩
theorem p_keep {S T S0 : xS} {v : Int} (hF : zFB S) (hP : zPC S T) (hS : zSwt S T) (hT : zTile S T) (hP0 : zPC S0 T) (hv : m_X3_sumOfSpans S0 = some v) : ∃ S1 T1, m_X8_keepBuilding v S = some S1 ∧ m_X9_makeBits T = some T1 ∧ zTile S1 T1 ∧ zTrace S1 T1 ∧ zBuilt S1 T1 ∧ (∀ q, q ≠ 26 → q ≠ 27 → q ≠ 29 → q ≠ 30 → q ≠ 33 → q ≠ 52 → S1 q = S q) ∧ (∀ q, 5 < q → q ≠ 12 → q ≠ 51 → q ≠ 52 → T1 q = T q) := by
  obtain ⟨⟨hn, e50, hcc, hss, h7⟩, hN, hz1, hz2⟩ := id hP
  obtain ⟨hr, ht⟩ := id hT
  -- the model
  obtain ⟨T1, a1, a2, a3, a4⟩ := p_mk1 16 2000 0 T (fun t t0 t1 => by
    obtain ⟨b1, b2, b3⟩ := hz1 t t0 t1
    rw [← b1]
    refine ⟨by omega, fun q => ?_, (hr.1 t t0 t1).2.1⟩
    obtain ⟨c1, c2, c3, c4, c5, c6, c7⟩ := hcc (S 15 t) q (by omega)
    rw [c3, c5]
    exact ⟨c4, c6⟩) (by omega) (by omega) (by omega)
  obtain ⟨T2, b1, b2, b3, b4⟩ := p_mk3 48 2000 0 T1 (by omega) (by omega) (by omega)
  obtain ⟨T3, c1, c2, c3, c4⟩ := p_mk4 128 2000 0 T2 (by omega) (by omega) (by omega)
  have o3 : ∀ q, 5 < q → T3 q = T q := fun q hq => by rw [c2 q (by omega), b2 q (by omega), a2 q (by omega) (by omega) (by omega) (by omega)]
  have e350 : T3 50 0 = S 50 0 := by rw [o3 50 (by decide), e50]
  have hP4 : zPC S0 (xup T3 51 0 (T3 50 0)) := hP0.ofF (fun _ _ => rfl) (fun q hq => by rw [xup_q _ _ _ (by omega), o3 q (by omega)])
  obtain ⟨w, w1, w2, w3, w4⟩ := p_cost3 hP4
  obtain rfl : w = v := by
    rw [hv] at w1
    exact (Option.some.inj w1).symm
  have e550 : xup (xup T3 51 0 (T3 50 0)) 52 0 w 50 = T3 50 := by rw [xup_q _ _ _ (by decide : (50 : Nat) ≠ 52), xup_q _ _ _ (by decide : (50 : Nat) ≠ 51)]
  obtain ⟨T6, d1, d2, d3, d4⟩ := p_mk12 (S 50 0).toNat 2000 0 (xup (xup T3 51 0 (T3 50 0)) 52 0 w) (by rw [e550, e350]; exact hn) (by omega) (by rw [e550, e350]; omega) (by omega)
  rw [e550, e350] at d4
  have o6 : ∀ q, q ≠ 12 → q ≠ 51 → q ≠ 52 → T6 q = T3 q := fun q q1 q2 q3 => by rw [d2 q q1, xup_q _ _ _ q3, xup_q _ _ _ q2]
  have f0 : ∀ q, q = 0 ∨ q = 1 ∨ q = 2 ∨ q = 5 → T6 q = T1 q := fun q hq => by rw [o6 q (by omega) (by omega) (by omega), c2 q (by omega), b2 q (by omega)]
  have f3 : ∀ p, 0 ≤ p → p < 48 → T6 3 p = T 19 p := fun p p0 p1 => by rw [o6 3 (by decide) (by decide) (by decide), c2 3 (by decide), b4 p p0 p1, a2 19 (by decide) (by decide) (by decide) (by decide)]
  have f4 : ∀ c, 0 ≤ c → c < 128 → T6 4 c = T 20 c := fun c c0 c1' => by rw [o6 4 (by decide) (by decide) (by decide), c4 c c0 c1', b2 20 (by decide), a2 20 (by decide) (by decide) (by decide) (by decide)]
  have hmb : m_X9_makeBits T = some T6 := by
    unfold m_X9_makeBits
    rw [a1, xbs, b1, xbs, c1, xbs, w2, xbs, d1, xbs]
  have hfl : ∀ t, 0 ≤ t → t < 16 → (0 ≤ T6 0 t ∧ T6 0 t ≤ 255) ∧ (0 ≤ T6 1 t ∧ T6 1 t ≤ 1) ∧ (0 ≤ T6 2 t ∧ T6 2 t ≤ 1) ∧ T6 0 t + 256 * T6 1 t + 512 * T6 2 t = zlo T t ∧ T6 5 t = if T6 1 t = T 1 t then T 5 t else 0 := fun t t0 t1 => by
    obtain ⟨x0, x1, x2, x5⟩ := a4 t t0 t1
    rw [f0 0 (by omega), f0 1 (by omega), f0 2 (by omega), f0 5 (by omega), x0, x1, x2, x5]
    unfold zlo
    obtain ⟨y1, y2, y3⟩ := hz1 t t0 t1
    rw [← y1]
    by_cases q : S 15 t < 0
    · simp only [if_pos q]
      refine ⟨by omega, by omega, by omega, by omega, trivial⟩
    · obtain ⟨z1, z2, z3, z4, z5, z6, z7⟩ := hcc (S 15 t) (by omega) (by omega)
      simp only [if_neg q]
      rw [z1, z3, z5]
      refine ⟨z2, by omega, by omega, trivial, trivial⟩
  have hr6 : zRng T6 := ⟨fun t t0 t1 => by
    obtain ⟨x0, x1, x2, x3⟩ := hfl t t0 t1
    exact ⟨x0, x1, x2⟩, fun p p0 p1 => by
    rw [f3 p p0 p1]
    exact (hS.1 p p0 p1).2, fun c c0 c1' => by
    rw [f4 c c0 c1']
    exact (hS.2 c c0 c1').2⟩
  have henc : ∀ t, 0 ≤ t → t < 16 → zenc T6 t = zlo T t + zrt T t := fun t t0 t1 => by
    obtain ⟨x0, x1, x2, x3, x4⟩ := hfl t t0 t1
    unfold zenc zrt
    rw [f3 _ (by omega) (by omega), f3 _ (by omega) (by omega), f3 _ (by omega) (by omega), f4 _ (by omega) (by omega), f4 _ (by omega) (by omega), f4 _ (by omega) (by omega), f4 _ (by omega) (by omega), f4 _ (by omega) (by omega), f4 _ (by omega) (by omega), f4 _ (by omega) (by omega), f4 _ (by omega) (by omega)]
    omega
  -- the class
  obtain ⟨S1, s1, s2, s3, s4⟩ := p_kp33 w 10 2000 0 S hn (by omega) (by omega) (by omega)
  have oS2 : ∀ q, q ≠ 33 → q ≠ 52 → xup S1 52 0 w q = S q := fun q q1 q2 => by rw [xup_q _ _ _ q2, s2 q q1]
  obtain ⟨S3, g1, g2, g3, g4⟩ := p_kp26 (zenc T6) 16 2000 0 (xup S1 52 0 w) (fun S' h' t t0 t1 => by
    have oS' : ∀ q, q ≠ 26 → q ≠ 27 → q ≠ 33 → q ≠ 52 → S' q = S q := fun q q1 q2 q3 q4 => by rw [h' q q1 q2, oS2 q q3 q4]
    have hP' : zPC S' T := hP.ofF (fun q hq => oS' q (by omega) (by omega) (by omega) (by omega)) (fun _ _ => rfl)
    have hS' : zSwt S' T := by
      unfold zSwt at hS ⊢
      rw [oS' 23 (by decide) (by decide) (by decide) (by decide), oS' 22 (by decide) (by decide) (by decide) (by decide)]
      exact hS
    obtain ⟨x1, x2, x3⟩ := p_set0 hP' (t := t) ⟨t0, t1⟩
    have x4 := p_set4 hS' (t := t) ⟨t0, t1⟩
    refine ⟨_, _, x1, x4, ?_⟩
    have y := zenc_all hr6 (t := t) ⟨t0, t1⟩
    have ye := henc t t0 t1
    have yr : zrt T t = zrt T t / 1024 * 1024 := by
      unfold zrt
      omega
    have yn : 0 ≤ zrt T t / 1024 := by
      have := y.1
      omega
    rw [ye, yr]
    rw [ye, yr] at y
    exact xl_or (k := 10) rfl ⟨x2, x3⟩ yn (by omega)) (fun t t0 t1 => by
    rw [oS2 26 (by decide) (by decide), (ht t t0 t1).1]
    exact ⟨(zenc_all hr ⟨t0, t1⟩).1, (zenc_all hr6 ⟨t0, t1⟩).1⟩) (by omega) (by omega) (by omega)
  rw [oS2 26 (by decide) (by decide), oS2 27 (by decide) (by decide)] at g4
  have oS3 : ∀ q, q ≠ 26 → q ≠ 27 → q ≠ 33 → q ≠ 52 → S3 q = S q := fun q q1 q2 q3 q4 => by rw [g2 q q1 q2, oS2 q q3 q4]
  obtain ⟨S4, k1, k2, k3⟩ := p_retrace (hF.of (oS3 0 (by decide) (by decide) (by decide) (by decide)) (oS3 1 (by decide) (by decide) (by decide) (by decide))) hr6 (fun t t0 t1 => (g4 t t0 t1).1)
  refine ⟨S4, T6, ?_, hmb, ⟨hr6, fun t t0 t1 => ?_⟩, k3, ⟨?_, ?_, fun c c0 c1' => ?_⟩, fun q q1 q2 q3 q4 q5 q6 => by rw [k2 q q3 q4, oS3 q q1 q2 q5 q6], fun q q1 q2 q3 q4 => by rw [o6 q q2 q3 q4, o3 q q1]⟩
  · unfold m_X8_keepBuilding
    rw [s1, xbs, g1, xbs, k1, xbs]
  · obtain ⟨y1, y2⟩ := g4 t t0 t1
    obtain ⟨x0, x1, x2, x3, x4⟩ := hfl t t0 t1
    obtain ⟨z1, z2, z3⟩ := ht t t0 t1
    rw [k2 26 (by decide) (by decide), k2 27 (by decide) (by decide), y1, y2, x4, (zenc_all hr6 ⟨t0, t1⟩).2.2.1, z1, (zenc_all hr ⟨t0, t1⟩).2.2.1, z2]
    refine ⟨rfl, rfl, ?_⟩
    by_cases q : T6 1 t = T 1 t
    · rw [if_pos q]
      exact z3
    · rw [if_neg q]
      exact Or.inl rfl
  · rw [d2 51 (by decide), xup_q _ _ _ (by decide : (51 : Nat) ≠ 52), xup_s, e350]
    exact hn
  · rw [d2 52 (by decide), xup_s, k2 52 (by decide) (by decide), g2 52 (by decide) (by decide), xup_s]
  · rw [k2 33 (by decide) (by decide), g2 33 (by decide) (by decide), xup_q _ _ _ (by decide : (33 : Nat) ≠ 52), s4 c c0 c1', d2 51 (by decide), xup_q _ _ _ (by decide : (51 : Nat) ≠ 52), xup_s, e350]
    by_cases q : c < S 50 0
    · rw [if_pos q, if_pos q, d4 c c0 q, xup_q _ _ _ (by decide : (13 : Nat) ≠ 52), xup_q _ _ _ (by decide : (13 : Nat) ≠ 51), o3 13 (by decide)]
      exact (hz2 c c0 q).1
    · rw [if_neg q, if_neg q]
theorem m8_go {S S1 S2 S3 S5 : xS} {v r : Int} (hn : xr (S 50 0)) (c : ¬ S 50 0 = 0) (a1 : m_X0_hasRing S = some (0, S1)) (b1 : m_X2_gather S1 = some S2) (c1 : m_X3_place S2 = some (v, S3)) (er : m_X4_route S3 = some (r, S5)) (hr : xr r) : m_X8_build S = if r ≤ 0 then some (r, S5) else (m_X8_keepBuilding v S5).bind (fun r12 => some (r, r12)) := by
  unfold m_X8_build m_X0_size
  rw [xbs, xck_t hn, if_neg c, a1, xbs]
  dsimp only
  rw [xck_t (show xr 0 from ⟨by decide, by decide⟩), if_pos (rfl : (0 : Int) = 0), b1, xbs, c1, xbs]
  dsimp only
  rw [er, xbs]
  dsimp only
  rw [xck_t hr]
theorem m8_ring {S S1 : xS} (hn : xr (S 50 0)) (c : ¬ S 50 0 = 0) (a1 : m_X0_hasRing S = some (1, S1)) : m_X8_build S = some (-2, S1) := by
  unfold m_X8_build m_X0_size
  rw [xbs, xck_t hn, if_neg c, a1, xbs]
  dsimp only
  rw [xck_t (show xr 1 from ⟨by decide, by decide⟩), if_neg (by decide)]
theorem m8_no {S : xS} (c : S 50 0 = 0) : m_X8_build S = some (-1, S) := by
  unfold m_X8_build m_X0_size
  rw [xbs, xck_t (show xr (S 50 0) from by rw [c]; exact ⟨by decide, by decide⟩), if_pos c]
theorem m9_go {T T1 T2 T3 : xS} (hn : xr (T 50 0)) (c : ¬ T 50 0 = 0) (a2 : m_X9_ring T = some (0, T1)) (c2 : m_X9_place T1 = some T2) (d1 : m_X9_build_L25 2000 0 T2 = some T3) {y : Int × xS} (f2 : m_X9_build_L47 2000 1 T3 = some (.inr y)) : m_X9_build T = some y := by
  unfold m_X9_build
  rewrite [xck_t hn, if_neg c, a2, xbs]
  dsimp only
  rewrite [xck_t (show xr 0 from ⟨by decide, by decide⟩), if_pos (rfl : (0 : Int) = 0), c2, xbs, d1, xbs, f2, xbs]
  dsimp only
theorem m9_out {T T1 T2 T3 T4 : xS} (hn : xr (T 50 0)) (c : ¬ T 50 0 = 0) (a2 : m_X9_ring T = some (0, T1)) (c2 : m_X9_place T1 = some T2) (d1 : m_X9_build_L25 2000 0 T2 = some T3) (f2 : m_X9_build_L47 2000 1 T3 = some (.inl T4)) : m_X9_build T = some (-3, T4) := by
  unfold m_X9_build
  rewrite [xck_t hn, if_neg c, a2, xbs]
  dsimp only
  rewrite [xck_t (show xr 0 from ⟨by decide, by decide⟩), if_pos (rfl : (0 : Int) = 0), c2, xbs, d1, xbs, f2, xbs]
  dsimp only
theorem m9_ring {T T1 : xS} (hn : xr (T 50 0)) (c : ¬ T 50 0 = 0) (a2 : m_X9_ring T = some (1, T1)) : m_X9_build T = some (-2, T1) := by
  unfold m_X9_build
  rw [xck_t hn, if_neg c, a2, xbs]
  dsimp only
  rw [xck_t (show xr 1 from ⟨by decide, by decide⟩), if_neg (by decide)]
theorem m9_no {T : xS} (c : T 50 0 = 0) : m_X9_build T = some (-1, T) := by
  unfold m_X9_build
  rw [xck_t (show xr (T 50 0) from by rw [c]; exact ⟨by decide, by decide⟩), if_pos c]
theorem p_build {S T : xS} (h : zRel S T) : ∃ r S1 T1, m_X8_build S = some (r, S1) ∧ m_X9_build T = some (r, T1) ∧ zRel S1 T1 := by
  obtain ⟨hn, e50, _⟩ := id h.2.2.2.1
  have x8 : xr (S 50 0) := ⟨by omega, by omega⟩
  have x9 : xr (T 50 0) := ⟨by omega, by omega⟩
  by_cases c : S 50 0 = 0
  · exact ⟨-1, S, T, m8_no c, m9_no (by omega), h⟩
  · obtain ⟨r, S1, T1, a1, a2, a3, a4, a5⟩ := p_ring h
    have c9 : ¬ T 50 0 = 0 := by omega
    rcases a4 with rfl | rfl
    · obtain ⟨hn1, e501, hcc1, hss1, h71⟩ := id a3.2.2.2.1
      obtain ⟨S2, b1, b2, b3⟩ := p_gather (S := S1) (fun k k0 k1 => zsrc_r hn1 (hss1 k k0 k1).2)
      have hR2 : zRel S2 T1 := a3.of (fun q hq => b2 q (by omega) (by omega)) (fun _ _ => rfl)
      obtain ⟨v, S3, T2, c1, c2, c3, c4, c5, c6⟩ := p_place hR2.2.2.2.1 b3
      obtain ⟨T3, d1, d2, d3, d4⟩ := p_z16 148 2000 0 T2 (by omega) (by omega) (by omega)
      have o3 : ∀ q, q ≠ 13 → q ≠ 14 → q ≠ 15 → q ≠ 16 → S3 q = S1 q := fun q q1 q2 q3 q4 => by rw [c5 q q3 q4, b2 q q1 q2]
      have hQ4 : zQ (xfl S3 18 148 0) := a3.2.2.1.of (by rw [xfl_q _ _ _ (by decide), o3 25 (by decide) (by decide) (by decide) (by decide)]) (by rw [xfl_q _ _ _ (by decide), o3 53 (by decide) (by decide) (by decide) (by decide)]) (by rw [xfl_q _ _ _ (by decide), o3 54 (by decide) (by decide) (by decide) (by decide)])
      have hRo : zRo (xfl S3 18 148 0) T3 0 := by
        refine ⟨a3.2.1.of ?_ ?_, a3.1.of ?_ ?_, hQ4, c3.ofF (fun q hq => xfl_q _ _ _ (by omega)) (fun q hq => d2 q (by omega)), fun w w0 w1 => ?_⟩
        · rw [xfl_q _ _ _ (by decide), o3 2 (by decide) (by decide) (by decide) (by decide)]
        · rw [xfl_q _ _ _ (by decide), o3 3 (by decide) (by decide) (by decide) (by decide)]
        · rw [xfl_q _ _ _ (by decide), o3 0 (by decide) (by decide) (by decide) (by decide)]
        · rw [xfl_q _ _ _ (by decide), o3 1 (by decide) (by decide) (by decide) (by decide)]
        · have e : xfl S3 18 148 0 18 w = 0 := if_pos ⟨rfl, w0, w1⟩
          rw [e, d4 w w0 w1]
          exact ⟨rfl, by omega, by omega⟩
      obtain ⟨S5, T4, e1, e2, e3, e4⟩ := p_rounds 12 2000 2000 1 0 (xfl S3 18 148 0) T3 hRo (by omega) (by omega) (by omega) (by omega) (by omega) (by omega)
      have oS5 : ∀ q, q ≤ 12 ∨ (25 < q ∧ q < 53) → S5 q = S1 q := fun q hq => by rw [e1 q (by omega), xfl_q _ _ _ (by omega), o3 q (by omega) (by omega) (by omega) (by omega)]
      have oT4 : ∀ q, q ≤ 12 ∨ 20 < q → T4 q = T1 q := fun q hq => by rw [e2 q (by omega), d2 q (by omega), c6 q (by omega) (by omega)]
      have hR5 : zRel S5 T4 := a3.ofQ e3 (fun q hq => oS5 q (by omega)) (fun q hq => oT4 q (by omega))
      rcases e4 with ⟨f1, f2⟩ | ⟨f1, f2⟩ | ⟨r, r1, f1, f2, f3, f4⟩
      · refine ⟨-3, S5, T4, ?_, ?_, hR5⟩
        · have er : m_X4_route S3 = some (-3, S5) := by
            unfold m_X4_route
            rw [f1, xbs]
          rw [m8_go x8 c a1 b1 c1 er ⟨by decide, by decide⟩, if_pos (by decide)]
        · exact m9_out x9 c9 a2 c2 d1 f2
      · refine ⟨-3, S5, T4, ?_, ?_, hR5⟩
        · have er : m_X4_route S3 = some (-3, S5) := by
            unfold m_X4_route
            rw [f1, xbs]
          rw [m8_go x8 c a1 b1 c1 er ⟨by decide, by decide⟩, if_pos (by decide)]
        · exact m9_go x9 c9 a2 c2 d1 f2
      · have hP0 : zPC S3 T4 := c3.ofF (fun _ _ => rfl) (fun q hq => by rw [e2 q (by omega), d2 q (by omega)])
        obtain ⟨S6, T6, g1, g2, g3, g4, g5, g6, g7⟩ := p_keep hR5.1 f3 f4 hR5.2.2.2.2.1 hP0 c4
        refine ⟨r, S6, T6, ?_, ?_, hR5.1.of (g6 0 (by decide) (by decide) (by decide) (by decide) (by decide) (by decide)) (g6 1 (by decide) (by decide) (by decide) (by decide) (by decide) (by decide)), hR5.2.1.of (g6 2 (by decide) (by decide) (by decide) (by decide) (by decide) (by decide)) (g6 3 (by decide) (by decide) (by decide) (by decide) (by decide) (by decide)), e3.of (g6 25 (by decide) (by decide) (by decide) (by decide) (by decide) (by decide)) (g6 53 (by decide) (by decide) (by decide) (by decide) (by decide) (by decide)) (g6 54 (by decide) (by decide) (by decide) (by decide) (by decide) (by decide)), ?_, g3, g4, g5⟩
        · have er : m_X4_route S3 = some (r, S5) := by
            unfold m_X4_route
            rw [f1, xbs]
          rw [m8_go x8 c a1 b1 c1 er ⟨by omega, by omega⟩, if_neg (by omega), g1, xbs]
        · rw [g2, xbs] at f2
          exact m9_go x9 c9 a2 c2 d1 f2
        · have x : ∀ q, (4 ≤ q ∧ q ≤ 9) ∨ q = 50 → S6 q = S5 q := fun q hq => g6 q (by omega) (by omega) (by omega) (by omega) (by omega) (by omega)
          have y : ∀ q, (6 ≤ q ∧ q ≤ 11) ∨ q = 50 → T6 q = T4 q := fun q hq => g7 q (by omega) (by omega) (by omega) (by omega)
          exact hR5.2.2.2.1.of (x 50 (by decide)) (x 4 (by decide)) (x 5 (by decide)) (x 6 (by decide)) (x 7 (by decide)) (x 8 (by decide)) (x 9 (by decide)) (y 50 (by decide)) (y 6 (by decide)) (y 7 (by decide)) (y 8 (by decide)) (y 9 (by decide)) (y 10 (by decide)) (y 11 (by decide))
    · exact ⟨-2, S1, T1, m8_ring x8 c a1, m9_ring x9 c9 a2, a3⟩
