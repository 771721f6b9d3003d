/-! load, put together -/
theorem zjoin {B : Int} (hB : 0 ≤ B ∧ B < 70368744177664) : B % 256 + 256 * (B / 256 % 2) + 512 * (B / 512 % 2) + 1024 * (B / 1024 % 16) + 16384 * (B / 16384 % 16) + 262144 * (B / 262144 % 16) + 4194304 * (B / 4194304 % 8) + 33554432 * (B / 33554432 % 8) + 268435456 * (B / 268435456 % 8) + 2147483648 * (B / 2147483648 % 8) + 17179869184 * (B / 17179869184 % 8) + 137438953472 * (B / 137438953472 % 8) + 1099511627776 * (B / 1099511627776 % 8) + 8796093022208 * (B / 8796093022208 % 8) = B := by omega
/-- the model's cells after a legal load -/
def zld (T : xS) (t B : Int) : xS := zput (xup (xup (xup (xup T 5 t (if B / 256 % 2 = T 1 t then T 5 t else 0)) 0 t (B % 256)) 1 t (B / 256 % 2)) 2 t (B / 512 % 2)) t B
theorem zld_q {T : xS} {t B : Int} {q : Nat} (h : 5 < q) : zld T t B q = T q := by
  unfold zld
  rw [zput_q (by omega) (by omega)]
  simp (disch := omega) only [xr, xck_t, xck_T, if_pos, if_neg, if_true, if_false, xbs, or_true, true_or, and_true, true_and, xup_q]
theorem zld_t {T : xS} {t B : Int} : zld T t B 0 t = B % 256 ∧ zld T t B 1 t = B / 256 % 2 ∧ zld T t B 2 t = B / 512 % 2 ∧ zld T t B 5 t = (if B / 256 % 2 = T 1 t then T 5 t else 0) := by
  unfold zld
  rw [zput_q (by decide) (by decide), zput_q (by decide) (by decide), zput_q (by decide) (by decide), zput_q (by decide) (by decide)]
  refine ⟨?_, ?_, ?_, ?_⟩
  · simp (disch := omega) only [xup_q, xup_s]
  · simp (disch := omega) only [xup_q, xup_s]
  · simp (disch := omega) only [xup_q, xup_s]
  · simp (disch := omega) only [xup_q, xup_s]
theorem zld_o {T : xS} {t B u : Int} (hu : u ≠ t) : zld T t B 0 u = T 0 u ∧ zld T t B 1 u = T 1 u ∧ zld T t B 2 u = T 2 u ∧ zld T t B 5 u = T 5 u := by
  unfold zld
  rw [zput_q (by decide) (by decide), zput_q (by decide) (by decide), zput_q (by decide) (by decide), zput_q (by decide) (by decide)]
  refine ⟨?_, ?_, ?_, ?_⟩
  · simp (disch := omega) only [xup_q, xup_i]
  · simp (disch := omega) only [xup_q, xup_i]
  · simp (disch := omega) only [xup_q, xup_i]
  · simp (disch := omega) only [xup_q, xup_i]
theorem zld_p {T : xS} {t B p : Int} (hp : p / 3 ≠ t) : zld T t B 3 p = T 3 p := by
  unfold zld
  rw [zput_3.2.2.2 p hp]
  simp (disch := omega) only [xr, xck_t, xck_T, if_pos, if_neg, if_true, if_false, xbs, or_true, true_or, and_true, true_and, xup_q]
theorem zld_c {T : xS} {t B p : Int} (hp : p / 8 ≠ t) : zld T t B 4 p = T 4 p := by
  unfold zld
  rw [zput_4.2.2.2.2.2.2.2.2 p hp]
  simp (disch := omega) only [xr, xck_t, xck_T, if_pos, if_neg, if_true, if_false, xbs, or_true, true_or, and_true, true_and, xup_q]
theorem zld_rng {T : xS} {t B : Int} (hr : zRng T) (ht : 0 ≤ t ∧ t < 16) (hB : 0 ≤ B ∧ B < 70368744177664) (hl : zlegal B) : zRng (zld T t B) := by
  refine ⟨fun u u0 u1 => ?_, fun p p0 p1 => ?_, fun c c0 c1 => ?_⟩
  · by_cases a : u = t
    · subst a
      obtain ⟨e0, e1, e2, e5⟩ := zld_t (T := T) (t := u) (B := B)
      rw [e0, e1, e2]
      omega
    · obtain ⟨e0, e1, e2, e5⟩ := zld_o (T := T) (t := t) (B := B) a
      rw [e0, e1, e2]
      exact hr.1 u u0 u1
  · by_cases a : p / 3 = t
    · have e := zput_3 (T := xup (xup (xup (xup T 5 t (if B / 256 % 2 = T 1 t then T 5 t else 0)) 0 t (B % 256)) 1 t (B / 256 % 2)) 2 t (B / 512 % 2)) (t := t) (B := B)
      unfold zlegal at hl
      unfold zld
      rcases (show p = 3 * t + 0 ∨ p = 3 * t + 1 ∨ p = 3 * t + 2 by omega) with rfl | rfl | rfl
      · rw [e.1]
        omega
      · rw [e.2.1]
        omega
      · rw [e.2.2.1]
        omega
    · rw [zld_p a]
      exact hr.2.1 p p0 p1
  · by_cases a : c / 8 = t
    · have e := zput_4 (T := xup (xup (xup (xup T 5 t (if B / 256 % 2 = T 1 t then T 5 t else 0)) 0 t (B % 256)) 1 t (B / 256 % 2)) 2 t (B / 512 % 2)) (t := t) (B := B)
      obtain ⟨e0, e1, e2, e3, e4, e5, e6, e7, e8⟩ := e
      unfold zlegal at hl
      unfold zld
      rcases (show c = 8 * t + 0 ∨ c = 8 * t + 1 ∨ c = 8 * t + 2 ∨ c = 8 * t + 3 ∨ c = 8 * t + 4 ∨ c = 8 * t + 5 ∨ c = 8 * t + 6 ∨ c = 8 * t + 7 by omega) with rfl | rfl | rfl | rfl | rfl | rfl | rfl | rfl
      · rw [e0]; omega
      · rw [e1]; omega
      · rw [e2]; omega
      · rw [e3]; omega
      · rw [e4]; omega
      · rw [e5]; omega
      · rw [e6]; omega
      · rw [e7]; omega
    · rw [zld_c a]
      exact hr.2.2 c c0 c1
theorem zld_enc {T : xS} {t B u : Int} (hB : 0 ≤ B ∧ B < 70368744177664) : zenc (zld T t B) u = if u = t then B else zenc T u := by
  by_cases a : u = t
  · subst a
    obtain ⟨e0, e1, e2, e5⟩ := zld_t (T := T) (t := u) (B := B)
    have e3 := zput_3 (T := xup (xup (xup (xup T 5 u (if B / 256 % 2 = T 1 u then T 5 u else 0)) 0 u (B % 256)) 1 u (B / 256 % 2)) 2 u (B / 512 % 2)) (t := u) (B := B)
    have e4 := zput_4 (T := xup (xup (xup (xup T 5 u (if B / 256 % 2 = T 1 u then T 5 u else 0)) 0 u (B % 256)) 1 u (B / 256 % 2)) 2 u (B / 512 % 2)) (t := u) (B := B)
    rw [if_pos rfl]
    unfold zenc
    rw [e0, e1, e2]
    unfold zld
    rw [e3.1, e3.2.1, e3.2.2.1, e4.1, e4.2.1, e4.2.2.1, e4.2.2.2.1, e4.2.2.2.2.1, e4.2.2.2.2.2.1, e4.2.2.2.2.2.2.1, e4.2.2.2.2.2.2.2.1]
    exact zjoin hB
  · obtain ⟨e0, e1, e2, e5⟩ := zld_o (T := T) (t := t) (B := B) a
    rw [if_neg a]
    unfold zenc
    rw [e0, e1, e2, zld_p (by omega), zld_p (by omega), zld_p (by omega), zld_c (by omega), zld_c (by omega), zld_c (by omega), zld_c (by omega), zld_c (by omega), zld_c (by omega), zld_c (by omega), zld_c (by omega)]
theorem p_load {S T : xS} {t : Int} {b : Int64} (h : zRel S T) (ht : xr t) : ∃ r S1 T1, m_X8_load t b S = some (r, S1) ∧ m_X9_load t b T = some (r, T1) ∧ zRel S1 T1 := by
  obtain ⟨h1, h2, h3, h4, h5, h6, h7⟩ := id h
  obtain ⟨hr, hT⟩ := id h5
  have same : ∃ r S1 T1, some ((0 : Int), S) = some (r, S1) ∧ some ((0 : Int), T) = some (r, T1) ∧ zRel S1 T1 := ⟨0, S, T, rfl, rfl, h⟩
  unfold m_X8_load m_X9_load
  rw [p_in ht ⟨by omega, by omega⟩ ⟨by omega, by omega⟩]
  by_cases a : 0 ≤ t ∧ t < 16
  · by_cases n : b.toInt < 0
    · have e : xb_lcmp b 0 < 0 := lc_lt.mpr ((xl_neg b).mpr n)
      have eL : m_X5_areLegal b = some 0 := by
        unfold m_X5_areLegal
        rw [if_pos e]
      rw [eL]
      simp (disch := first | omega | assumption) only [xr, xck_t, xck_T, if_pos, if_neg, if_true, if_false, xbs, e]
      exact same
    · have e : ¬ xb_lcmp b 0 < 0 := fun q => n ((xl_neg b).mp (lc_lt.mp q))
      by_cases g : b.toInt < 70368744177664
      · have hB : 0 ≤ b.toInt ∧ b.toInt < 70368744177664 := ⟨by omega, g⟩
        have e46 : xb_lcmp (b >>> ((xi 46).toInt64 &&& 63)) 0 = 0 := lc_eq.mpr (Int64.toInt_inj.mp (by
          rw [x_sh46]
          show b.toInt / 70368744177664 = 0
          omega))
        obtain ⟨fa, fb, g1, g2, g3, g4⟩ := p_flags (T := T) (t := t) hB
        have eb : Int64.ofInt b.toInt = b := xl_ofTo b
        have hpL := p_legal hB
        have hf8 := xl_fld (B := b.toInt) (k := 8) (j := 1) (m := 1) (P := 256) (M := 2) hB (by decide) (by decide) rfl rfl rfl
        have hf9 := xl_fld (B := b.toInt) (k := 9) (j := 1) (m := 1) (P := 512) (M := 2) hB (by decide) (by decide) rfl rfl rfl
        have hf0 := xl_mask (B := b.toInt) (j := 8) (m := 255) ⟨hB.1, by omega⟩ (by decide) rfl
        have hput := fun T1 : xS => p_put (T := T1) (B := b.toInt) a hB
        rw [eb] at g1 g2 hpL hf8 hf9 hf0
        rw [eb] at hput
        rw [g1]
        rcases hpL with ⟨l, el⟩ | ⟨l, el⟩
        · have fb1 := g4.mpr l
          subst fb1
          rw [el, hf8, hf9, hf0]
          have i8 : (if xb_lcmp (Int64.ofInt (b.toInt / 256 % 2)) 1 = 0 then some (1 : Int) else some 0) = some (b.toInt / 256 % 2) := by
            rcases (show b.toInt / 256 % 2 = 0 ∨ b.toInt / 256 % 2 = 1 by omega) with q | q <;> rw [q] <;> decide
          have i9 : (if xb_lcmp (Int64.ofInt (b.toInt / 512 % 2)) 1 = 0 then some (1 : Int) else some 0) = some (b.toInt / 512 % 2) := by
            rcases (show b.toInt / 512 % 2 = 0 ∨ b.toInt / 512 % 2 = 1 by omega) with q | q <;> rw [q] <;> decide
          have e5 := hT t a.1 a.2
          have hr1 := hr.1 t a.1 a.2
          have ez := zenc_all hr a
          have hreg : m_X5_hasRegister t S = some (T 1 t) := by
            rw [p_hasReg a (by rw [e5.1]; exact ez.1), e5.1, ez.2.2.1]
          have hreg2 : m_X5_hasRegister t (xup S 26 t b.toInt) = some (b.toInt / 256 % 2) := by
            rw [p_hasReg a (by rw [xup_s]; exact hB), xup_s]
          have r25 : (xck (xr (b.toInt / 256 % 2) ∧ xr (T 1 t)) (if b.toInt / 256 % 2 = T 1 t then some (T 5 t) else some 0)) = some (if b.toInt / 256 % 2 = T 1 t then T 5 t else 0) := by
            by_cases q : b.toInt / 256 % 2 = T 1 t
            · rw [if_pos q, if_pos q]
              simp (disch := omega) only [xr, xck_t, xck_T, if_pos, if_neg, if_true, if_false, xbs, or_true, true_or, and_true, true_and]
            · rw [if_neg q, if_neg q]
              simp (disch := omega) only [xr, xck_t, xck_T, if_pos, if_neg, if_true, if_false, xbs, or_true, true_or, and_true, true_and]
          have xup26 : ∀ u, xup S 26 t b.toInt 26 u = if u = t then b.toInt else S 26 u := fun u => by
            by_cases v : u = t
            · rw [if_pos v, v, xup_s]
            · rw [if_neg v, xup_i _ _ _ v]
          have hset : ∃ S1, m_X5_setBits t b S = some S1 ∧ (∀ q, q ≠ 26 → q ≠ 27 → S1 q = S q) ∧ (∀ u, S1 26 u = if u = t then b.toInt else S 26 u) ∧ (∀ u, S1 27 u = if u = t then (if b.toInt / 256 % 2 = T 1 t then S 27 t else 0) else S 27 u) := by
            unfold m_X5_setBits
            rw [hreg, xbs, hreg2, xbs]
            by_cases q : b.toInt / 256 % 2 = T 1 t
            · refine ⟨xup S 26 t b.toInt, ?_, fun x x1 x2 => xup_q _ _ _ x1, fun u => xup26 u, fun u => ?_⟩
              · simp (disch := omega) only [xr, xck_t, xck_T, if_pos, if_neg, if_true, if_false, xbs, or_true, true_or, and_true, true_and]
              · rw [xup_q _ _ _ (by decide : (27 : Nat) ≠ 26), if_pos q]
                by_cases v : u = t
                · rw [if_pos v, v]
                · rw [if_neg v]
            · refine ⟨xup (xup S 26 t b.toInt) 27 t 0, ?_, fun x x1 x2 => by rw [xup_q _ _ _ x2, xup_q _ _ _ x1], fun u => ?_, fun u => ?_⟩
              · simp (disch := omega) only [xr, xck_t, xck_T, if_pos, if_neg, if_true, if_false, xbs, or_true, true_or, and_true, true_and]
              · rw [xup_q _ _ _ (by decide : (26 : Nat) ≠ 27)]
                exact xup26 u
              · rw [if_neg q]
                by_cases v : u = t
                · rw [if_pos v, v, xup_s]
                · rw [if_neg v, xup_i _ _ _ v, xup_q _ _ _ (by decide : (27 : Nat) ≠ 26)]
          obtain ⟨S1, s1, s2, s3, s4⟩ := hset
          have hrl := zld_rng hr a hB l
          have hfb : zFB S1 := by
            unfold zFB at h1 ⊢
            rw [s2 0 (by decide) (by decide), s2 1 (by decide) (by decide)]
            exact h1
          have hen : ∀ u, 0 ≤ u → u < 16 → S1 26 u = zenc (zld T t b.toInt) u := fun u u0 u1 => by
            rw [s3 u, zld_enc hB]
            by_cases v : u = t
            · rw [if_pos v, if_pos v]
            · rw [if_neg v, if_neg v]
              exact (hT u u0 u1).1
          obtain ⟨S2, w1, w2, w3⟩ := p_retrace hfb hrl hen
          refine ⟨1, S2, zld T t b.toInt, ?_, ?_, ?_, ?_, ?_, ?_, ?_, w3, ?_⟩
          · simp (disch := omega) only [xr, xck_t, xck_T, if_pos, if_neg, if_true, if_false, xbs, or_true, true_or, and_true, true_and, s1, w1]
          · simp (disch := first | omega | assumption) only [xr, xck_t, xck_T, if_pos, if_neg, if_true, if_false, xbs, e, e46, g2, i8, i9]
            have r25b : (if b.toInt / 256 % 2 = T 1 t then some (T 5 t) else some 0) = some (if b.toInt / 256 % 2 = T 1 t then T 5 t else 0) := by
              by_cases q : b.toInt / 256 % 2 = T 1 t
              · rw [if_pos q, if_pos q]
              · rw [if_neg q, if_neg q]
            rw [r25b, xbs, xl_i ⟨by omega, by omega⟩, hput]
            rfl
          · unfold zFB at h1 ⊢
            rw [w2 0 (by decide) (by decide), w2 1 (by decide) (by decide), s2 0 (by decide) (by decide), s2 1 (by decide) (by decide)]
            exact h1
          · unfold zFA at h2 ⊢
            rw [w2 2 (by decide) (by decide), w2 3 (by decide) (by decide), s2 2 (by decide) (by decide), s2 3 (by decide) (by decide)]
            exact h2
          · unfold zQ at h3 ⊢
            rw [w2 54 (by decide) (by decide), w2 53 (by decide) (by decide), w2 25 (by decide) (by decide), s2 54 (by decide) (by decide), s2 53 (by decide) (by decide), s2 25 (by decide) (by decide)]
            exact h3
          · have hw : ∀ q, q ≠ 29 → q ≠ 30 → q ≠ 26 → q ≠ 27 → S2 q = S q := fun q q1 q2 q3 q4 => by rw [w2 q q1 q2, s2 q q3 q4]
            exact h4.of (hw 50 (by decide) (by decide) (by decide) (by decide)) (hw 4 (by decide) (by decide) (by decide) (by decide)) (hw 5 (by decide) (by decide) (by decide) (by decide)) (hw 6 (by decide) (by decide) (by decide) (by decide)) (hw 7 (by decide) (by decide) (by decide) (by decide)) (hw 8 (by decide) (by decide) (by decide) (by decide)) (hw 9 (by decide) (by decide) (by decide) (by decide)) (zld_q (by decide)) (zld_q (by decide)) (zld_q (by decide)) (zld_q (by decide)) (zld_q (by decide)) (zld_q (by decide)) (zld_q (by decide))
          · refine ⟨hrl, fun u u0 u1 => ?_⟩
            rw [w2 26 (by decide) (by decide), w2 27 (by decide) (by decide), s4 u]
            refine ⟨hen u u0 u1, ?_⟩
            by_cases v : u = t
            · subst v
              rw [if_pos rfl, zld_t.2.2.2, e5.2.1]
              refine ⟨rfl, ?_⟩
              by_cases q : b.toInt / 256 % 2 = T 1 u
              · rw [if_pos q]
                exact e5.2.2
              · rw [if_neg q]
                exact Or.inl rfl
            · rw [if_neg v, (zld_o v).2.2.2]
              exact (hT u u0 u1).2
          · have hw : ∀ q, q ≠ 29 → q ≠ 30 → q ≠ 26 → q ≠ 27 → S2 q = S q := fun q q1 q2 q3 q4 => by rw [w2 q q1 q2, s2 q q3 q4]
            exact h7.of (hw 33 (by decide) (by decide) (by decide) (by decide)) (hw 52 (by decide) (by decide) (by decide) (by decide)) (zld_q (by decide)) (zld_q (by decide)) (zld_q (by decide))
        · have fb0 : fb = 0 := by
            rcases g3 with q | q
            · exact q
            · exact absurd (g4.mp q) l
          subst fb0
          rw [el]
          simp (disch := first | omega | assumption) only [xr, xck_t, xck_T, if_pos, if_neg, if_true, if_false, xbs, e, e46, g2]
          exact same
      · have e2 : ¬ xb_lcmp b 70368744177664 < 0 := fun q => g (Int64.lt_iff_toInt_lt.mp (lc_lt.mp q))
        have e46 : ¬ xb_lcmp (b >>> ((xi 46).toInt64 &&& 63)) 0 = 0 := fun q => by
          have q2 := congrArg Int64.toInt (lc_eq.mp q)
          rw [x_sh46] at q2
          have q3 : b.toInt / 70368744177664 = 0 := q2
          omega
        have eL : m_X5_areLegal b = some 0 := by
          unfold m_X5_areLegal
          rw [if_neg e, if_neg e2]
        rw [eL]
        simp (disch := first | omega | assumption) only [xr, xck_t, xck_T, if_pos, if_neg, if_true, if_false, xbs, e, e46]
        exact same
  · by_cases c : t < 0
    · simp (disch := omega) only [xr, xck_t, xck_T, if_pos, if_neg, if_true, if_false, xbs, or_true, true_or, and_true, true_and]
      exact same
    · simp (disch := omega) only [xr, xck_t, xck_T, if_pos, if_neg, if_true, if_false, xbs, or_true, true_or, and_true, true_and]
      exact same
