/-! longest: the model's sweeps -/
theorem zD.later {m n : Int} {a b : UInt64} (ha : zD m a) (hb : zD n b) : ∃ r, (if (xb_dcmp .l b a) ≤ 0 then some a else some b) = some r ∧ zD (max m n) r := by
  rw [hb.cmp ha]
  by_cases h : n < m
  · rw [if_pos h, if_pos (by decide), show max m n = m by omega]
    exact ⟨a, rfl, ha⟩
  · rw [if_neg h]
    by_cases h2 : n = m
    · rw [if_pos h2, if_pos (by decide), show max m n = m by omega]
      exact ⟨a, rfl, ha⟩
    · rw [if_neg h2, if_neg (by decide), show max m n = n by omega]
      exact ⟨b, rfl, hb⟩
/-- what a look at a way does to the model -/
def zY (T T1 : xS) : Prop := ∀ a, a ≠ 21 → a ≠ 22 → a ≠ 53 → T1 a = T a
theorem p_arrY {o L τ : Int → Int} {T : xS} {M p : Int} (hO : zO o L) (hV : zV (T 22) τ) (hM : zM τ M) (hM0 : 0 ≤ M ∧ M ≤ 1000000) (hp : 0 ≤ p ∧ p < 52) (h0 : 0 ≤ o p) (h53 : T 53 0 = L p) : ∃ a, m_X9_arrives (o p) T = some a ∧ zD (qarr o L τ p) a := by
  have ho := hO p hp.1 hp.2
  unfold m_X9_arrives qarr
  rw [h53]
  have hm := zD_3.mul (by decide) (xi_toInt (x := L p) ⟨by omega, by omega⟩) (by omega)
  by_cases h1 : 16 ≤ o p
  · have ha := zD_0.add hm (by omega)
    refine ⟨FP.dadd FP.dconst0 (FP.dmul (4600427019358961664 : UInt64) (FP.i2d (xi (L p)))), ?_, ?_⟩
    · simp (disch := omega) only [xr, xck_t, xck_T, if_pos, if_neg, if_true, if_false, xbs, or_true, true_or, and_true, true_and, xck_t hm.n64, xck_t ha.n64]
    · rw [if_neg (by omega), if_pos h1]
      exact ha
  · have hg := zV_get hV (t := o p) (by omega)
    have hb := hM (o p) (by omega) (by omega)
    have ha := hg.add hm (by omega)
    refine ⟨FP.dadd (UInt64.ofNat (T 22 (o p)).toNat) (FP.dmul (4600427019358961664 : UInt64) (FP.i2d (xi (L p)))), ?_, ?_⟩
    · simp (disch := omega) only [xr, xck_t, xck_T, if_pos, if_neg, if_true, if_false, xbs, or_true, true_or, and_true, true_and, xck_t hm.n64, xck_t ha.n64]
    · rw [if_neg (by omega), if_neg h1]
      exact ha
theorem p_getY {V T T1 : xS} (hR : zRel V T) (hY : zY T T1) {p : Int} (hp : 0 ≤ p ∧ p < 48) : ∃ T2, m_X9_gets p T1 = some (V 29 p, T2) ∧ zY T T2 ∧ T2 22 = T1 22 ∧ (0 ≤ V 29 p → T2 53 0 = V 30 p) := by
  have hr : zRng T1 := by
    have h := hR.2.2.2.2.1.1
    unfold zRng at h ⊢
    rw [hY 0 (by decide) (by decide) (by decide), hY 1 (by decide) (by decide) (by decide), hY 2 (by decide) (by decide) (by decide), hY 3 (by decide) (by decide) (by decide), hY 4 (by decide) (by decide) (by decide)]
    exact h
  obtain ⟨T2, e1, e2, e3⟩ := p_gets hr hp
  rw [hY 3 (by decide) (by decide) (by decide), hY 4 (by decide) (by decide) (by decide)] at e1 e3
  have ht := hR.2.2.2.2.2.1.1 p hp.1 hp.2
  rw [← ht.1] at e1 e3
  rw [← ht.2] at e3
  exact ⟨T2, e1, fun a a1 a2 a3 => by rw [e2 a a1 a3]; exact hY a a1 a2 a3, e2 22 (by decide) (by decide), e3⟩
theorem p_lt1 {V T T1 : xS} (hR : zRel V T) (hO : zO (V 29) (V 30)) (hY : zY T T1) {τ : Int → Int} {M m t v : Int} {a : UInt64} (hV : zV (T1 22) τ) (hM : zM τ M) (hM0 : 0 ≤ M ∧ M ≤ 1000000) (ht : 0 ≤ t ∧ t < 16) (hv : 0 ≤ v ∧ v < 3) (ha : zD m a) (hm : -8 ≤ m) : ∃ b T2, (∀ n, m_X9_latest_L7 t (n + 1) a v T1 = m_X9_latest_L7 t n b (v + 1) T2) ∧ zD (max m (qarr (V 29) (V 30) τ (t * 3 + v))) b ∧ zY T T2 ∧ T2 22 = T1 22 := by
  have ho := hO (t * 3 + v) (by omega) (by omega)
  obtain ⟨T2, e1, e2, e3, e4⟩ := p_getY hR hY (p := t * 3 + v) (by omega)
  have hc : 3 * t + v = t * 3 + v := by omega
  by_cases h0 : V 29 (t * 3 + v) < 0
  · refine ⟨a, T2, fun n => ?_, ?_, e2, e3⟩
    · conv => lhs; unfold m_X9_latest_L7
      rw [hc]
      simp (disch := omega) only [xr, xck_t, xck_T, if_pos, if_neg, if_true, if_false, xbs, or_true, true_or, and_true, true_and, e1]
    · unfold qarr
      rw [if_pos h0, show max m (-8) = m by omega]
      exact ha
  · obtain ⟨x, f1, f2⟩ := p_arrY hO (by rw [e3]; exact hV) hM hM0 (p := t * 3 + v) (by omega) (by omega) (e4 (by omega))
    obtain ⟨y, g1, g2⟩ := ha.later f2
    refine ⟨y, T2, fun n => ?_, g2, e2, e3⟩
    conv => lhs; unfold m_X9_latest_L7
    rw [hc]
    simp (disch := omega) only [xr, xck_t, xck_T, if_pos, if_neg, if_true, if_false, xbs, or_true, true_or, and_true, true_and, e1, f1, g1]
theorem s_lte {T : xS} {t v : Int} {a : UInt64} (hv : v = 3) (n : Nat) : m_X9_latest_L7 t (n + 1) a v T = some (a, T) := by
  unfold m_X9_latest_L7
  simp (disch := omega) only [xr, xck_t, xck_T, if_pos, if_neg, if_true, if_false, xbs, or_true, true_or, and_true, true_and]
theorem p_latY {V T T1 : xS} (hR : zRel V T) (hO : zO (V 29) (V 30)) (hY : zY T T1) {τ : Int → Int} {M t : Int} (hV : zV (T1 22) τ) (hM : zM τ M) (hM0 : 0 ≤ M ∧ M ≤ 1000000) (ht : 0 ≤ t ∧ t < 16) : ∃ a T2, m_X9_latest t T1 = some (a, T2) ∧ zD (qlat (V 29) (V 30) τ t) a ∧ zY T T2 ∧ T2 22 = T1 22 := by
  obtain ⟨b0, T2, a1, a2, a3, a4⟩ := p_lt1 hR hO hY hV hM hM0 ht (v := 0) (by omega) zD_m8 (by omega)
  obtain ⟨b1, T3, c1, c2, c3, c4⟩ := p_lt1 hR hO a3 (by rw [a4]; exact hV) hM hM0 ht (v := 0 + 1) (by omega) a2 (by omega)
  obtain ⟨b2, T4, d1, d2, d3, d4⟩ := p_lt1 hR hO c3 (by rw [c4, a4]; exact hV) hM hM0 ht (v := 0 + 1 + 1) (by omega) c2 (by omega)
  refine ⟨b2, T4, ?_, d2, d3, by rw [d4, c4, a4]⟩
  unfold m_X9_latest
  rw [a1 1999, c1 1998, d1 1997, s_lte (by omega) 1996, xbs]
theorem p_stL {V T : xS} (hR : zRel V T) (hO : zO (V 29) (V 30)) {τ : Int → Int} {M : Int} (hM : zM τ M) (hM0 : 0 ≤ M ∧ M + 6400 ≤ 1000000) : ∀ (d n v : Nat) (c : Int) (T1 : xS), zY T T1 → v + d = 16 → d < n → zV (T1 22) (ysw (T 1) (V 29) (V 30) τ v) → (c = 0 ∨ c = 1) → (c = 0 ↔ ∀ t, 0 ≤ t → t < (v : Int) → τ t = qnx (T 1) (V 29) (V 30) τ t) →
    ∃ c1 T2, m_X9_settle_L4 n c v T1 = some (c1, T2) ∧ zY T T2 ∧ zV (T2 22) (ysw (T 1) (V 29) (V 30) τ 16) ∧ (c1 = 0 ∨ c1 = 1) ∧ (c1 = 0 ↔ yfix (T 1) (V 29) (V 30) τ) := by
  intro d
  induction d with
  | zero =>
    intro n v c T1 hY hv hn hV hc hi
    obtain ⟨n, rfl⟩ : ∃ j, n = j + 1 := ⟨n - 1, by omega⟩
    have hv16 : v = 16 := by omega
    subst hv16
    refine ⟨c, T1, ?_, hY, hV, hc, hi⟩
    unfold m_X9_settle_L4
    simp (disch := omega) only [xr, xck_t, xck_T, if_pos, if_neg, if_true, if_false, xbs, or_true, true_or, and_true, true_and]
  | succ d ih =>
    intro n v c T1 hY hv hn hV hc hi
    obtain ⟨n, rfl⟩ : ∃ j, n = j + 1 := ⟨n - 1, by omega⟩
    have hvi : 0 ≤ (v : Int) ∧ (v : Int) < 16 := by omega
    have hMv := ysw_in (g := T 1) hO hM hM0.1 v (by omega)
    obtain ⟨a, T2, e1, e2, e3, e4⟩ := p_latY hR hO hY hV hMv (by omega) hvi
    have hla := qlat_in hO hMv (by omega) hvi
    have hq := qnx_in (g := T 1) hO hMv (by omega) hvi
    have hg := (p_reg hR hvi).2
    have g1 : T2 1 = T 1 := e3 1 (by decide) (by decide) (by decide)
    -- the new time
    have now : ∃ b, (xck (xr (T2 1 v)) (if (T2 1 v) = 0 then ((if 0 ≤ (xb_dcmp .g a FP.dconst0) then some a else some FP.dconst0)).bind (fun r8 => xck ((FP.dadd (4603804719079489536 : UInt64) r8) &&& 9223372036854775807 ≤ (9218868437227405312 : UInt64)) (some (FP.dadd (4603804719079489536 : UInt64) r8))) else some (4602678819172646912 : UInt64))) = some b ∧ zD (qnx (T 1) (V 29) (V 30) (ysw (T 1) (V 29) (V 30) τ v) v) b := by
      rw [g1]
      unfold qnx
      rcases hg with h | h
      · rw [if_pos h, e2.cmp zD_0]
        by_cases k : qlat (V 29) (V 30) (ysw (T 1) (V 29) (V 30) τ v) v < 0
        · have dd := zD_5.add zD_0 (by omega)
          refine ⟨FP.dadd 4603804719079489536 FP.dconst0, ?_, ?_⟩
          · simp (disch := omega) only [xr, xck_t, xck_T, if_pos, if_neg, if_true, if_false, xbs, or_true, true_or, and_true, true_and, xck_t dd.n64]
          · rw [if_pos h, show max 0 (qlat (V 29) (V 30) (ysw (T 1) (V 29) (V 30) τ v) v) = 0 by omega]
            exact dd
        · have dd := zD_5.add e2 (by omega)
          refine ⟨FP.dadd 4603804719079489536 a, ?_, ?_⟩
          · by_cases k2 : qlat (V 29) (V 30) (ysw (T 1) (V 29) (V 30) τ v) v = 0
            · simp (disch := omega) only [xr, xck_t, xck_T, if_pos, if_neg, if_true, if_false, xbs, or_true, true_or, and_true, true_and, xck_t dd.n64]
            · simp (disch := omega) only [xr, xck_t, xck_T, if_pos, if_neg, if_true, if_false, xbs, or_true, true_or, and_true, true_and, xck_t dd.n64]
          · rw [if_pos h, show max 0 (qlat (V 29) (V 30) (ysw (T 1) (V 29) (V 30) τ v) v) = (qlat (V 29) (V 30) (ysw (T 1) (V 29) (V 30) τ v) v) by omega]
            exact dd
      · refine ⟨4602678819172646912, ?_, ?_⟩
        · simp (disch := omega) only [xr, xck_t, xck_T, if_pos, if_neg, if_true, if_false, xbs, or_true, true_or, and_true, true_and]
        · rw [if_neg (by omega)]
          exact zD_4
    obtain ⟨b, nb, db⟩ := now
    have hold := zV_get hV hvi
    rw [← e4] at hold
    rw [ysw_ge v v (by omega)] at hold
    have flag : ∃ c1 : Int, (if c = 0 then (if (xb_dcmp .l b (UInt64.ofNat (T2 22 v).toNat)) = 0 then some 0 else some 1) else some 1) = some c1 ∧ (c1 = 0 ∨ c1 = 1) ∧ (c1 = 0 ↔ ∀ t, 0 ≤ t → t < ((v + 1 : Nat) : Int) → τ t = qnx (T 1) (V 29) (V 30) τ t) := by
      rw [db.cmp hold]
      rcases hc with h | h
      · have hall := hi.mp h
        rw [ysw_fix v hall]
        by_cases k : τ v = qnx (T 1) (V 29) (V 30) τ v
        · refine ⟨0, ?_, Or.inl rfl, fun _ t t0 t1 => ?_, fun _ => rfl⟩
          · simp (disch := omega) only [xr, xck_t, xck_T, if_pos, if_neg, if_true, if_false, xbs, or_true, true_or, and_true, true_and]
          · by_cases z : t = (v : Int)
            · rw [z]
              exact k
            · exact hall t t0 (by omega)
        · refine ⟨1, ?_, Or.inr rfl, fun z => by omega, fun z => absurd (z v (by omega) (by omega)) k⟩
          by_cases k2 : qnx (T 1) (V 29) (V 30) τ v < τ v
          · simp (disch := omega) only [xr, xck_t, xck_T, if_pos, if_neg, if_true, if_false, xbs, or_true, true_or, and_true, true_and]
          · simp (disch := omega) only [xr, xck_t, xck_T, if_pos, if_neg, if_true, if_false, xbs, or_true, true_or, and_true, true_and]
      · refine ⟨1, ?_, Or.inr rfl, fun z => by omega, fun z => ?_⟩
        · simp (disch := omega) only [xr, xck_t, xck_T, if_pos, if_neg, if_true, if_false, xbs, or_true, true_or, and_true, true_and]
        · have := hi.mpr (fun t t0 t1 => z t t0 (by omega))
          omega
    obtain ⟨c1, f1, f2, f3⟩ := flag
    obtain ⟨c2, T3, i1, i2, i3, i4, i5⟩ := ih n (v + 1) c1 (xup T2 22 v (b.toNat : Int)) (fun q q1 q2 q3 => by rw [xup_q _ _ _ q2]; exact e3 q q1 q2 q3) (by omega) (by omega) (by
      have := zV_up (S := T2) (q := 22) (t := v) (by rw [e4]; exact hV) db
      exact this) f2 f3
    refine ⟨c2, T3, ?_, i2, i3, i4, i5⟩
    unfold m_X9_settle_L4
    have i1' : m_X9_settle_L4 n c1 ((v : Int) + 1) (xup T2 22 v (b.toNat : Int)) = some (c2, T3) := i1
    simp (disch := omega) only [xr, xck_t, xck_T, if_pos, if_neg, if_true, if_false, xbs, or_true, true_or, and_true, true_and, e1, nb, f1]
    exact i1'
theorem p_stY {V T : xS} (hR : zRel V T) (hO : zO (V 29) (V 30)) {τ : Int → Int} {M : Int} (hM : zM τ M) (hM0 : 0 ≤ M ∧ M + 6400 ≤ 1000000) {T1 : xS} (hY : zY T T1) (hV : zV (T1 22) τ) : ∃ c T2, m_X9_settle T1 = some (c, T2) ∧ zY T T2 ∧ zV (T2 22) (ysw (T 1) (V 29) (V 30) τ 16) ∧ (c = 0 ∨ c = 1) ∧ (c = 0 ↔ yfix (T 1) (V 29) (V 30) τ) := by
  obtain ⟨c, T2, a1, a2, a3, a4, a5⟩ := p_stL hR hO hM hM0 16 2000 0 0 T1 hY (by omega) (by omega) hV (Or.inl rfl) ⟨fun _ t t0 t1 => by omega, fun _ => rfl⟩
  refine ⟨c, T2, ?_, a2, a3, a4, a5⟩
  have a1' : m_X9_settle_L4 2000 0 0 T1 = some (c, T2) := a1
  unfold m_X9_settle
  rw [a1', xbs]
  dsimp only
  rw [xck_t a4]
theorem yit_s (g o L : Int → Int) (n : Nat) : yit g o L (n + 1) = ysw g o L (yit g o L n) 16 := rfl
theorem s_lo0 {T : xS} {w : Int} (hw : 0 ≤ w ∧ w ≤ 100) (n : Nat) : m_X9_longest_L25 (n + 1) 0 w T = some (0, T) := by
  unfold m_X9_longest_L25
  by_cases h : 18 ≤ w
  · simp (disch := omega) only [xr, xck_t, xck_T, if_pos, if_neg, if_true, if_false, xbs, or_true, true_or, and_true, true_and]
  · simp (disch := omega) only [xr, xck_t, xck_T, if_pos, if_neg, if_true, if_false, xbs, or_true, true_or, and_true, true_and]
theorem s_lo1 {T T2 : xS} {w c : Int} (hw : 0 ≤ w ∧ w < 18) (e : m_X9_settle T = some (c, T2)) (n : Nat) : m_X9_longest_L25 (n + 1) 1 w T = m_X9_longest_L25 n c (w + 1) T2 := by
  conv => lhs; unfold m_X9_longest_L25
  simp (disch := omega) only [xr, xck_t, xck_T, if_pos, if_neg, if_true, if_false, xbs, or_true, true_or, and_true, true_and, e]
/-- a sweep that changes nothing comes -/
theorem p_loYf {V T : xS} (hR : zRel V T) (hO : zO (V 29) (V 30)) {k : Nat} (hk : k ≤ 17) (hf : yfix (T 1) (V 29) (V 30) (yit (T 1) (V 29) (V 30) k)) : ∀ (d n v : Nat) (T1 : xS), zY T T1 → v + d = k → d + 1 < n → zV (T1 22) (yit (T 1) (V 29) (V 30) v) → ∃ T2, m_X9_longest_L25 n 1 v T1 = some (0, T2) ∧ zY T T2 ∧ zV (T2 22) (yit (T 1) (V 29) (V 30) k) := by
  intro d
  induction d with
  | zero =>
    intro n v T1 hY hv hn hV
    obtain ⟨n, rfl⟩ : ∃ j, n = j + 1 := ⟨n - 1, by omega⟩
    obtain ⟨n, rfl⟩ : ∃ j, n = j + 1 := ⟨n - 1, by omega⟩
    have hvk : v = k := by omega
    subst hvk
    obtain ⟨c, T2, a1, a2, a3, a4, a5⟩ := p_stY hR hO (yit_in hO v) (by omega) hY hV
    have hc : c = 0 := a5.mpr hf
    subst hc
    refine ⟨T2, ?_, a2, ?_⟩
    · rw [s_lo1 (by omega) a1, s_lo0 (by omega)]
    · have := yit_fix hf 1
      rw [← this, yit_s]
      exact a3
  | succ d ih =>
    intro n v T1 hY hv hn hV
    obtain ⟨n, rfl⟩ : ∃ j, n = j + 1 := ⟨n - 1, by omega⟩
    obtain ⟨n, rfl⟩ : ∃ j, n = j + 1 := ⟨n - 1, by omega⟩
    obtain ⟨c, T2, a1, a2, a3, a4, a5⟩ := p_stY hR hO (yit_in hO v) (by omega) hY hV
    rcases a4 with hc | hc
    · have hfv := a5.mp hc
      have e := yit_fix hfv (k - v)
      rw [show v + (k - v) = k by omega] at e
      have e2 := yit_fix hfv 1
      subst hc
      refine ⟨T2, ?_, a2, ?_⟩
      · rw [s_lo1 (by omega) a1, s_lo0 (by omega)]
      · rw [e, ← e2, yit_s]
        exact a3
    · subst hc
      obtain ⟨T3, b1, b2, b3⟩ := ih (n + 1) (v + 1) T2 a2 (by omega) (by omega) (by rw [yit_s]; exact a3)
      refine ⟨T3, ?_, b2, b3⟩
      have b1' : m_X9_longest_L25 (n + 1) 1 ((v : Int) + 1) T2 = some (0, T3) := b1
      rw [s_lo1 (by omega) a1]
      exact b1'
/-- none comes -/
theorem p_loYn {V T : xS} (hR : zRel V T) (hO : zO (V 29) (V 30)) (hf : ∀ n, ¬ yfix (T 1) (V 29) (V 30) (yit (T 1) (V 29) (V 30) n)) : ∀ (d n v : Nat) (T1 : xS), zY T T1 → v + d = 18 → d < n → zV (T1 22) (yit (T 1) (V 29) (V 30) v) → ∃ T2, m_X9_longest_L25 n 1 v T1 = some (1, T2) ∧ zY T T2 := by
  intro d
  induction d with
  | zero =>
    intro n v T1 hY hv hn hV
    obtain ⟨n, rfl⟩ : ∃ j, n = j + 1 := ⟨n - 1, by omega⟩
    refine ⟨T1, ?_, hY⟩
    unfold m_X9_longest_L25
    simp (disch := omega) only [xr, xck_t, xck_T, if_pos, if_neg, if_true, if_false, xbs, or_true, true_or, and_true, true_and]
  | succ d ih =>
    intro n v T1 hY hv hn hV
    obtain ⟨n, rfl⟩ : ∃ j, n = j + 1 := ⟨n - 1, by omega⟩
    obtain ⟨c, T2, a1, a2, a3, a4, a5⟩ := p_stY hR hO (yit_in hO v) (by omega) hY hV
    have hc : c = 1 := by
      rcases a4 with h | h
      · exact absurd (a5.mp h) (hf v)
      · exact h
    subst hc
    obtain ⟨T3, b1, b2⟩ := ih n (v + 1) T2 a2 (by omega) (by omega) (by rw [yit_s]; exact a3)
    refine ⟨T3, ?_, b2⟩
    have b1' : m_X9_longest_L25 n 1 ((v : Int) + 1) T2 = some (1, T3) := b1
    unfold m_X9_longest_L25
    simp (disch := omega) only [xr, xck_t, xck_T, if_pos, if_neg, if_true, if_false, xbs, or_true, true_or, and_true, true_and, a1]
    exact b1'
theorem p_loY0 {T : xS} : ∀ (d n v : Nat) (T1 : xS), zY T T1 → v + d = 16 → d < n → (∀ t, 0 ≤ t → t < (v : Int) → T1 22 t = (FP.dconst0.toNat : Int)) → ∃ T2, m_X9_longest_L2 n v T1 = some T2 ∧ zY T T2 ∧ zV (T2 22) (fun _ => 0) := by
  intro d
  induction d with
  | zero =>
    intro n v T1 hY hv hn hd
    obtain ⟨n, rfl⟩ : ∃ j, n = j + 1 := ⟨n - 1, by omega⟩
    refine ⟨T1, ?_, hY, fun t t0 t1 => ⟨_, hd t t0 (by omega), zD_0⟩⟩
    unfold m_X9_longest_L2
    simp (disch := omega) only [xr, xck_t, xck_T, if_pos, if_neg, if_true, if_false, xbs, or_true, true_or, and_true, true_and]
  | succ d ih =>
    intro n v T1 hY hv hn hd
    obtain ⟨n, rfl⟩ : ∃ j, n = j + 1 := ⟨n - 1, by omega⟩
    obtain ⟨T2, a1, a2, a3⟩ := ih n (v + 1) (xup T1 22 v (FP.dconst0.toNat : Int)) (fun q q1 q2 q3 => by rw [xup_q _ _ _ q2]; exact hY q q1 q2 q3) (by omega) (by omega) (by
      intro t t0 t1
      by_cases c : t = (v : Int)
      · rw [c, xup_s]
      · rw [xup_i _ _ _ c]
        exact hd t t0 (by omega))
    refine ⟨T2, ?_, a2, a3⟩
    have a1' : m_X9_longest_L2 n ((v : Int) + 1) (xup T1 22 v (FP.dconst0.toNat : Int)) = some T2 := a1
    unfold m_X9_longest_L2
    simp (disch := omega) only [xr, xck_t, xck_T, if_pos, if_neg, if_true, if_false, xbs, or_true, true_or, and_true, true_and]
    exact a1'
