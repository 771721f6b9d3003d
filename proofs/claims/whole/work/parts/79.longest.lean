/-! longest, slack -/
theorem qarr_eq {o L τ σ : Int → Int} (h : ∀ t, 0 ≤ t → t < 16 → τ t = σ t) (p : Int) : qarr o L τ p = qarr o L σ p := qarr_ext (fun h0 h1 => h _ h0 h1)
theorem qlat_eq {o L τ σ : Int → Int} (h : ∀ t, 0 ≤ t → t < 16 → τ t = σ t) (t : Int) : qlat o L τ t = qlat o L σ t := by
  unfold qlat
  rw [qarr_eq h, qarr_eq h, qarr_eq h]
theorem p_lo1 {V S T : xS} (hR : zRel V T) (hO : zO (V 29) (V 30)) (hS : ∀ q, q ≠ 31 → q ≠ 32 → S q = V q) {α φ : Int → Int} (hαV : zI (S 31) α) (hαM : zM α 200000) (hφM : zM φ 200000) (he : ∀ t, 0 ≤ t → t < 16 → φ t = α t) : ∀ (d n m v : Nat) (x : Int) (a : UInt64) (T1 : xS), zY T T1 → zV (T1 22) φ → v + d = 16 → d < n → d < m → zD x a → (0 ≤ x ∧ x ≤ 400000) →
    ∃ y b T2, m_X6_longestWay_L15 S n x v = some y ∧ m_X9_longest_L59 m a v T1 = some (b, T2) ∧ zY T T2 ∧ zV (T2 22) φ ∧ zD y b ∧ (0 ≤ y ∧ y ≤ 400000) := by
  have hO2 : zO (S 29) (S 30) := by
    rw [hS 29 (by decide) (by decide), hS 30 (by decide) (by decide)]
    exact hO
  have hSR : zRel S T := hR.of (fun q hq => hS q (by omega) (by omega)) (fun _ _ => rfl)
  intro d
  induction d with
  | zero =>
    intro n m v x a T1 hY hV hv hn hm hx hb
    obtain ⟨n, rfl⟩ : ∃ j, n = j + 1 := ⟨n - 1, by omega⟩
    obtain ⟨m, rfl⟩ : ∃ j, m = j + 1 := ⟨m - 1, by omega⟩
    refine ⟨x, a, T1, ?_, ?_, hY, hV, hx, hb⟩
    · unfold m_X6_longestWay_L15
      simp (disch := omega) only [xr, xck_t, xck_T, if_pos, if_neg, if_true, if_false, xbs, or_true, true_or, and_true, true_and]
    · unfold m_X9_longest_L59
      simp (disch := omega) only [xr, xck_t, xck_T, if_pos, if_neg, if_true, if_false, xbs, or_true, true_or, and_true, true_and]
  | succ d ih =>
    intro n m v x a T1 hY hV hv hn hm hx hb
    obtain ⟨n, rfl⟩ : ∃ j, n = j + 1 := ⟨n - 1, by omega⟩
    obtain ⟨m, rfl⟩ : ∃ j, m = j + 1 := ⟨m - 1, by omega⟩
    have hvi : 0 ≤ (v : Int) ∧ (v : Int) < 16 := by omega
    obtain ⟨r1, r2⟩ := p_reg hSR hvi
    have ep := p_latX hO2 hαV hαM (by omega) hvi
    obtain ⟨p, T2, ep2, dp, y1, y2⟩ := p_latY hR hO hY hV hφM (by omega) hvi
    rw [qlat_eq he] at dp
    rw [hS 29 (by decide) (by decide), hS 30 (by decide) (by decide)] at ep
    have hla := qlat_in hO hαM (by omega) hvi
    have g1 : T2 1 = T 1 := y1 1 (by decide) (by decide) (by decide)
    have key : ∃ y b, (0 ≤ y ∧ y ≤ 400000) ∧ zD y b ∧ (xck (xr (T 1 v)) (if T 1 v = 0 then some x else xck (xr (max (-1) (qlat (V 29) (V 30) α v))) (if max (-1) (qlat (V 29) (V 30) α v) = (-1) then some x else xck (xr x ∧ xr ((max (-1) (qlat (V 29) (V 30) α v) + 5) + 2)) (some (xb_max x ((max (-1) (qlat (V 29) (V 30) α v) + 5) + 2)))))) = some y ∧
        (xck (xr (T2 1 v)) (if T2 1 v = 0 then some a else (if (xb_dcmp .l p FP.dconst0) < 0 then some a else xck ((FP.dadd p (4603804719079489536 : UInt64)) &&& 9223372036854775807 ≤ (9218868437227405312 : UInt64)) (xck ((FP.dadd (FP.dadd p (4603804719079489536 : UInt64)) (4598175219545276416 : UInt64)) &&& 9223372036854775807 ≤ (9218868437227405312 : UInt64)) ((if (xb_dcmp .l (FP.dadd (FP.dadd p (4603804719079489536 : UInt64)) (4598175219545276416 : UInt64)) a) ≤ 0 then some a else some (FP.dadd (FP.dadd p (4603804719079489536 : UInt64)) (4598175219545276416 : UInt64)))))))) = some b := by
      have g2 : T2 1 v = T 1 v := by rw [g1]
      rcases r2 with h | h
      · refine ⟨x, a, hb, hx, ?_, ?_⟩
        · simp (disch := omega) only [xr, xck_t, xck_T, if_pos, if_neg, if_true, if_false, xbs, or_true, true_or, and_true, true_and]
        · simp (disch := omega) only [xr, xck_t, xck_T, if_pos, if_neg, if_true, if_false, xbs, or_true, true_or, and_true, true_and]
      · rw [dp.cmp zD_0]
        by_cases k : qlat (V 29) (V 30) α v < 0
        · refine ⟨x, a, hb, hx, ?_, ?_⟩
          · rw [xck_t ⟨by omega, by omega⟩, if_neg (by omega), xck_t ⟨by omega, by omega⟩, if_pos (by omega)]
          · simp (disch := omega) only [xr, xck_t, xck_T, if_pos, if_neg, if_true, if_false, xbs, or_true, true_or, and_true, true_and]
        · have d1 := dp.add zD_5 (by omega)
          have d2 := d1.add zD_2 (by omega)
          obtain ⟨b2, f3, f4⟩ := hx.later d2
          have kk : ¬ (if qlat (V 29) (V 30) α v < 0 then (-1 : Int) else if qlat (V 29) (V 30) α v = 0 then 0 else 1) < 0 := by
            rw [if_neg k]
            split <;> omega
          refine ⟨max x (qlat (V 29) (V 30) α v + 5 + 2), b2, by omega, f4, ?_, ?_⟩
          · rw [xck_t ⟨by omega, by omega⟩, if_neg (by omega), xck_t ⟨by omega, by omega⟩, if_neg (by omega), xck_t ⟨⟨by omega, by omega⟩, ⟨by omega, by omega⟩⟩, p_imax, show max (-1) (qlat (V 29) (V 30) α v) = qlat (V 29) (V 30) α v by omega]
          · rw [if_neg kk]
            simp (disch := omega) only [xr, xck_t, xck_T, if_pos, if_neg, if_true, if_false, xbs, or_true, true_or, and_true, true_and, xck_t d1.n64, xck_t d2.n64, f3]
    obtain ⟨y, b, k1, k2, k3, k4⟩ := key
    obtain ⟨z, c, T3, i1, i2, i3⟩ := ih n m (v + 1) y b T2 y1 (by rw [y2]; exact hV) (by omega) (by omega) (by omega) k2 k1
    refine ⟨z, c, T3, ?_, ?_, i3⟩
    · have i1' : m_X6_longestWay_L15 S n y ((v : Int) + 1) = some z := i1
      unfold m_X6_longestWay_L15
      rw [xck_t ⟨by omega, by omega⟩, if_neg (by omega), ep, xbs, r1, xbs, k3, xbs]
      exact i1'
    · have i2' : m_X9_longest_L59 m b ((v : Int) + 1) T2 = some (c, T3) := i2
      unfold m_X9_longest_L59
      rw [xck_t ⟨by omega, by omega⟩, if_neg (by omega), ep2, xbs, xck_t hvi]
      dsimp only
      rw [k4, xbs]
      exact i2'
theorem p_outY {V T T1 : xS} (hR : zRel V T) (hY : zY T T1) {v : Int} (hvi : 0 ≤ v ∧ v < 4) : ∃ T2, m_X9_outputOf v T1 = some (V 29 (48 + v), T2) ∧ zY T T2 ∧ T2 22 = T1 22 ∧ (0 ≤ V 29 (48 + v) → T2 53 0 = V 30 (48 + v)) := by
  have hT : zRel V T1 ∨ zRng T1 := by
    right
    have h := hR.2.2.2.2.1.1
    unfold zRng at h ⊢
    rw [hY 0 (by decide) (by decide) (by decide), hY 1 (by decide) (by decide) (by decide), hY 2 (by decide) (by decide) (by decide), hY 3 (by decide) (by decide) (by decide), hY 4 (by decide) (by decide) (by decide)]
    exact h
  have hr : zRng T1 := by
    rcases hT with h | h
    · exact h.2.2.2.2.1.1
    · exact h
  obtain ⟨T2, e1, e2, e3⟩ := p_comes hr (w := 36 * v + 30) (by omega) (by omega)
  have ht := hR.2.2.2.2.2.1.2 v hvi.1 hvi.2
  have h4 : T1 4 = T 4 := hY 4 (by decide) (by decide) (by decide)
  have h5 : zor (T1 4) (36 * v + 30) = V 29 (48 + v) := by rw [h4, ht.1]
  have h6 : zlen (T1 4) (36 * v + 30) = V 30 (48 + v) := by rw [h4, ht.2]
  rw [h5] at e1 e3
  rw [h6] at e3
  refine ⟨T2, ?_, fun a a1 a2 a3 => by rw [e2 a a1 a3]; exact hY a a1 a2 a3, e2 22 (by decide) (by decide), e3⟩
  unfold m_X9_outputOf
  rw [p_in ⟨by omega, by omega⟩ ⟨by omega, by omega⟩ ⟨by omega, by omega⟩, (p_outW v).2, xbs, xbs, e1, xbs]
  simp (disch := omega) only [xr, xck_t, xck_T, if_pos, if_neg, if_true, if_false, xbs, or_true, true_or, and_true, true_and]
theorem p_lo2 {V S T : xS} (hR : zRel V T) (hO : zO (V 29) (V 30)) (hS : ∀ q, q ≠ 31 → q ≠ 32 → S q = V q) {α φ : Int → Int} (hαV : zI (S 31) α) (hαM : zM α 200000) (hφM : zM φ 200000) (he : ∀ t, 0 ≤ t → t < 16 → φ t = α t) : ∀ (d n m v : Nat) (x : Int) (a : UInt64) (T1 : xS), zY T T1 → zV (T1 22) φ → v + d = 4 → d < n → d < m → zD x a → (0 ≤ x ∧ x ≤ 400000) →
    ∃ y b T2, m_X6_longestWay_L61 S n x v = some y ∧ m_X9_longest_L126 m a v T1 = some (b, T2) ∧ zY T T2 ∧ zD y b ∧ (0 ≤ y ∧ y ≤ 400000) := by
  have hO2 : zO (S 29) (S 30) := by
    rw [hS 29 (by decide) (by decide), hS 30 (by decide) (by decide)]
    exact hO
  intro d
  induction d with
  | zero =>
    intro n m v x a T1 hY hV hv hn hm hx hb
    obtain ⟨n, rfl⟩ : ∃ j, n = j + 1 := ⟨n - 1, by omega⟩
    obtain ⟨m, rfl⟩ : ∃ j, m = j + 1 := ⟨m - 1, by omega⟩
    refine ⟨x, a, T1, ?_, ?_, hY, hx, hb⟩
    · unfold m_X6_longestWay_L61
      simp (disch := omega) only [xr, xck_t, xck_T, if_pos, if_neg, if_true, if_false, xbs, or_true, true_or, and_true, true_and]
    · unfold m_X9_longest_L126
      simp (disch := omega) only [xr, xck_t, xck_T, if_pos, if_neg, if_true, if_false, xbs, or_true, true_or, and_true, true_and]
  | succ d ih =>
    intro n m v x a T1 hY hV hv hn hm hx hb
    obtain ⟨n, rfl⟩ : ∃ j, n = j + 1 := ⟨n - 1, by omega⟩
    obtain ⟨m, rfl⟩ : ∃ j, m = j + 1 := ⟨m - 1, by omega⟩
    have hvi : 0 ≤ (v : Int) ∧ (v : Int) < 4 := by omega
    have ep := p_arrX hO2 hαV hαM (by omega) (p := 48 + v) (by omega)
    rw [hS 29 (by decide) (by decide), hS 30 (by decide) (by decide)] at ep
    have hq := qarr_in hO hαM (by omega) (p := 48 + v) (by omega)
    obtain ⟨T2, eo, hY2, e22, e3⟩ := p_outY hR hY hvi
    have hV2 : zV (T2 22) φ := by
      rw [e22]
      exact hV
    have key : ∃ b, zD (max x (qarr (V 29) (V 30) α (48 + v))) b ∧ (xck (xr (V 29 (48 + (v : Int)))) (if (V 29 (48 + (v : Int))) < 0 then some a else (m_X9_arrives (V 29 (48 + (v : Int))) T2).bind (fun r31 => ((if (xb_dcmp .l r31 a) ≤ 0 then some a else some r31)).bind (fun r32 => some r32)))) = some b := by
      have ho := hO (48 + v) (by omega) (by omega)
      by_cases h0 : V 29 (48 + v) < 0
      · have : qarr (V 29) (V 30) α (48 + v) = -8 := by
          unfold qarr
          rw [if_pos h0]
        rw [this, show max x (-8) = x by omega]
        refine ⟨a, hx, ?_⟩
        simp (disch := omega) only [xr, xck_t, xck_T, if_pos, if_neg, if_true, if_false, xbs, or_true, true_or, and_true, true_and]
      · obtain ⟨y, f1, f2⟩ := p_arrY hO hV2 hφM (by omega) (p := 48 + v) (by omega) (by omega) (e3 (by omega))
        rw [qarr_eq he] at f2
        obtain ⟨b2, f3, f4⟩ := hx.later f2
        refine ⟨b2, f4, ?_⟩
        simp (disch := omega) only [xr, xck_t, xck_T, if_pos, if_neg, if_true, if_false, xbs, or_true, true_or, and_true, true_and, f1, f3]
    obtain ⟨b, db, key⟩ := key
    obtain ⟨z, c, T3, i1, i2, i3⟩ := ih n m (v + 1) (max x (qarr (V 29) (V 30) α (48 + v))) b T2 hY2 hV2 (by omega) (by omega) (by omega) db (by omega)
    refine ⟨z, c, T3, ?_, ?_, i3⟩
    · have i1' : m_X6_longestWay_L61 S n (max x (qarr (V 29) (V 30) α (48 + v))) ((v : Int) + 1) = some z := i1
      unfold m_X6_longestWay_L61
      rw [xck_t ⟨by omega, by omega⟩, if_neg (by omega), ep, xbs, xck_t ⟨⟨by omega, by omega⟩, ⟨by omega, by omega⟩⟩, p_imax, show max x (max (-1) (qarr (V 29) (V 30) α (48 + (v : Int)))) = max x (qarr (V 29) (V 30) α (48 + v)) by omega]
      exact i1'
    · have i2' : m_X9_longest_L126 m b ((v : Int) + 1) T2 = some (c, T3) := i2
      unfold m_X9_longest_L126
      rw [xck_t ⟨by omega, by omega⟩, if_neg (by omega), eo, xbs]
      dsimp only
      rw [key, xbs]
      exact i2'
theorem zO_of {V T : xS} (hR : zRel V T) : zO (V 29) (V 30) := by
  intro p p0 p1
  obtain ⟨h1, h2⟩ := hR.2.2.2.2.2.1
  have hr := hR.2.2.2.2.1.1
  by_cases c : p < 48
  · have h3 := hr.2.1 p p0 c
    have hb := zbp_of (c := p) (s := T 3 p) ⟨p0, c⟩ ⟨h3.1, by omega⟩
    rw [(h1 p p0 c).1, (h1 p p0 c).2]
    exact zor_in hr hb.2.1 hb.2.2
  · have h4 := h2 (p - 48) (by omega) (by omega)
    rw [show 48 + (p - 48) = p by omega] at h4
    rw [h4.1, h4.2]
    exact zor_in hr (by omega) (by omega)
theorem p_longestW {S T : xS} (h : zRel S T) : ∃ n r S1 T1, m_X6_longestWay S = some (r, S1) ∧ m_X9_longest T = some (r, T1) ∧ zRel S1 T1 ∧ zRel S T1 ∧ zD n r ∧ (n = -8 ∨ (0 ≤ n ∧ n ≤ 400000)) := by
  have hO := zO_of h
  obtain ⟨S1, α, r, a1, a2, a3, a4, a5⟩ := p_tmX h hO
  obtain ⟨T0, b1, b2, b3⟩ := p_loY0 (T := T) 16 2000 0 T (fun _ _ _ _ => rfl) (by omega) (by omega) (fun t t0 t1 => by omega)
  have b1' : m_X9_longest_L2 2000 0 T = some T0 := b1
  have hfin2 : ∀ T1, zY T T1 → zRel S T1 := fun T1 hY => h.of (fun q hq => rfl) (fun q hq => hY q (by omega) (by omega) (by omega))
  have hfin : ∀ T1, zY T T1 → zRel S1 T1 := fun T1 hY => h.of (fun q hq => a2 q (by omega) (by omega)) (fun q hq => hY q (by omega) (by omega) (by omega))
  rcases a5 with ⟨hr, hf, he⟩ | ⟨hr, hf⟩
  · subst hr
    obtain ⟨T1, c1, c2, c3⟩ := p_loYf h hO (Nat.le_refl 17) hf 17 2000 0 T0 b2 (by omega) (by omega) b3
    have c1' : m_X9_longest_L25 2000 1 0 T0 = some (0, T1) := c1
    have hM17 : zM (yit (T 1) (S 29) (S 30) 17) 200000 := fun t t0 t1 => by
      have := yit_in (g := T 1) hO 17 t t0 t1
      omega
    obtain ⟨x, a, T2, d1, d2, d3, d4, d5, d6⟩ := p_lo1 h hO a2 a3 a4 hM17 he 16 2000 2000 0 0 FP.dconst0 T1 c2 c3 (by omega) (by omega) (by omega) zD_0 (by omega)
    obtain ⟨y, b, T3, e1, e2, e3, e4, e5⟩ := p_lo2 h hO a2 a3 a4 hM17 he 4 2000 2000 0 x a T2 d3 d4 (by omega) (by omega) (by omega) d5 d6
    have d1' : m_X6_longestWay_L15 S1 2000 0 0 = some x := d1
    have d2' : m_X9_longest_L59 2000 FP.dconst0 0 T1 = some (a, T2) := d2
    have e1' : m_X6_longestWay_L61 S1 2000 x 0 = some y := e1
    have e2' : m_X9_longest_L126 2000 a 0 T2 = some (b, T3) := e2
    have dq := zD.div8 (x := xi y) (xi_toInt ⟨by omega, by omega⟩) (by omega)
    have hb := dq.uniq e4
    have dn := dq.n64
    refine ⟨y, b, S1, T3, ?_, ?_, hfin T3 e3, hfin2 T3 e3, e4, Or.inr e5⟩
    · unfold m_X6_longestWay
      rw [a1, xbs, xck_t ⟨by omega, by omega⟩, if_neg (by omega), d1', xbs, e1', xbs, xck_t dn, hb]
    · unfold m_X9_longest
      rw [b1', xbs, c1', xbs]
      simp (disch := omega) only [xr, xck_t, xck_T, if_pos, if_neg, if_true, if_false, xbs, or_true, true_or, and_true, true_and, d2', e2']
  · subst hr
    obtain ⟨T1, c1, c2⟩ := p_loYn h hO (fun n => hf _ hO (fun t t0 t1 => (yit_in (g := T 1) hO n t t0 t1).1)) 18 2000 0 T0 b2 (by omega) (by omega) b3
    have c1' : m_X9_longest_L25 2000 1 0 T0 = some (1, T1) := c1
    refine ⟨-8, 13830554455654793216, S1, T1, ?_, ?_, hfin T1 c2, hfin2 T1 c2, zD_m8, Or.inl rfl⟩
    · unfold m_X6_longestWay
      rw [a1, xbs]
      simp (disch := omega) only [xr, xck_t, xck_T, if_pos, if_neg, if_true, if_false, xbs, or_true, true_or, and_true, true_and]
    · unfold m_X9_longest
      rw [b1', xbs, c1', xbs]
      simp (disch := omega) only [xr, xck_t, xck_T, if_pos, if_neg, if_true, if_false, xbs, or_true, true_or, and_true, true_and]
theorem p_longest {S T : xS} (h : zRel S T) : ∃ (r : UInt64) (S1 T1 : xS), m_X8_longest S = some (r, S1) ∧ m_X9_longest T = some (r, T1) ∧ zRel S1 T1 ∧ xb_dcmp .l r r = 0 := by
  obtain ⟨n, r, S1, T1, e1, e2, e3, hT, e4, e5⟩ := p_longestW h
  refine ⟨r, S1, T1, ?_, e2, e3, ?_⟩
  · unfold m_X8_longest
    rw [e1, xbs]
  · rw [e4.cmp e4, if_neg (by omega), if_pos rfl]
theorem p_slack {S T : xS} (y : Int32) (h : zRel S T) : vf_n64 (FP.dmul (FP.i2d y) (4593671619917905920 : UInt64)) ∧ ∃ (r : UInt64) (S1 T1 : xS), m_X8_slack (FP.dmul (FP.i2d y) (4593671619917905920 : UInt64)) S = some (r, S1) ∧ m_X9_slack (FP.dmul (FP.i2d y) (4593671619917905920 : UInt64)) T = some (r, T1) ∧ zRel S1 T1 ∧ xb_dcmp .l r r = 0 := by
  have hy1 := y.toInt_lt
  have hy2 := y.le_toInt
  have hp := zD_1.mul2 (x := y) (by decide) rfl (by omega)
  refine ⟨hp.fn64, ?_⟩
  obtain ⟨n, r, S1, T1, e1, e2, e3, hT, e4, e5⟩ := p_longestW h
  have self : ∀ {m : Int} {a : UInt64}, zD m a → xb_dcmp .l a a = 0 := fun {m a} hd => by rw [hd.cmp hd, if_neg (by omega), if_pos rfl]
  generalize FP.dmul (FP.i2d y) (4593671619917905920 : UInt64) = p at hp
  unfold m_X8_slack m_X9_slack
  rw [e2, xbs, hp.cmp zD_0]
  dsimp only
  by_cases h0 : 0 < 1 * y.toInt
  · have k1 : (if 1 * y.toInt < 0 then (-1 : Int) else if 1 * y.toInt = 0 then 0 else 1) = 1 := by rw [if_neg (by omega), if_neg (by omega)]
    have hp1 : ∀ {α : Type} (a b : α), (if (0 : Int) < 1 then a else b) = a := fun a b => if_pos (by decide)
    simp only [k1, hp1, e4.cmp zD_0, e1, xbs]
    rcases e5 with hn | hn
    · refine ⟨13830554455654793216, S1, T1, ?_, ?_, e3, self zD_m8⟩
      · simp (disch := omega) only [xr, xck_t, xck_T, if_pos, if_neg, if_true, if_false, xbs, or_true, true_or, and_true, true_and]
      · simp (disch := omega) only [xr, xck_t, xck_T, if_pos, if_neg, if_true, if_false, xbs, or_true, true_or, and_true, true_and]
    · have hd := hp.sub e4 hn.1 (by omega)
      have kk : ¬ (if n < 0 then (-1 : Int) else if n = 0 then 0 else 1) < 0 := by
        rw [if_neg (by omega)]
        split <;> omega
      refine ⟨FP.dsub p r, S1, T1, ?_, ?_, e3, self hd⟩
      · rw [if_pos (by omega), xck_t hd.n64]
      · rw [if_neg kk, xck_t hd.n64]
  · have kk : ¬ 0 < (if 1 * y.toInt < 0 then (-1 : Int) else if 1 * y.toInt = 0 then 0 else 1) := by
      split
      · omega
      · rw [if_pos (by omega)]
        omega
    rw [if_neg kk, if_neg kk]
    refine ⟨13830554455654793216, S, T1, rfl, ?_, hT, self zD_m8⟩
    split <;> rfl
