/-! the bits that a building makes -/
theorem xl_or {a x P : Int} {k : Nat} (hP : (2 : Int) ^ k = P) (ha : 0 ≤ a ∧ a < P) (hx : 0 ≤ x) (h : a + x * P < 4611686018427387904) : Int64.ofInt a ||| Int64.ofInt (x * P) = Int64.ofInt (a + x * P) := by
  obtain ⟨n, rfl⟩ : ∃ n : Nat, a = n := ⟨a.toNat, by omega⟩
  obtain ⟨m, rfl⟩ : ∃ m : Nat, x = m := ⟨x.toNat, by omega⟩
  obtain ⟨q, hq⟩ : ∃ q : Nat, 2 ^ k = q := ⟨_, rfl⟩
  have eP : P = (q : Int) := by
    rw [← hP, ← hq, Int.natCast_pow]
    rfl
  subst eP
  have e1 : (m : Int) * (q : Int) = ((m * q : Nat) : Int) := (Int.natCast_mul m q).symm
  have e2 : (n : Int) + ((m * q : Nat) : Int) = ((n + m * q : Nat) : Int) := (Int.natCast_add n (m * q)).symm
  rw [e1] at h ⊢
  rw [e2] at h ⊢
  rw [xl_nat, xl_nat, xl_nat]
  exact g_or' hq (by omega) (by omega)
theorem s_17 {S : xS} {t a v v1 x P : Int} (n : Nat) (ev : v + 1 = v1) (ht : 0 ≤ t ∧ t < 16) (hx : S 23 (t * 3 + v) = x) (hr : 0 ≤ x ∧ x ≤ 9) (hv : 0 ≤ v ∧ v < 3) (hP : (2 : Int) ^ (10 + v * 4).toNat = P) (ha : 0 ≤ a ∧ a < P) (hb : a + x * P < 4611686018427387904) : m_X4_settingsOf_L17 t S (n + 1) (Int64.ofInt a) v = m_X4_settingsOf_L17 t S n (Int64.ofInt (a + x * P)) v1 := by
  subst ev
  conv => lhs; unfold m_X4_settingsOf_L17
  rw [hx, xl_shl ⟨by omega, by omega⟩ ⟨by omega, by omega⟩ hP, xl_or hP ha hr.1 hb]
  simp (disch := omega) only [xr, xck_t, xck_T, if_pos, if_neg, if_true, if_false, xbs, or_true, true_or, and_true, true_and]
theorem s_59 {S : xS} {t a v v1 x P : Int} (n : Nat) (ev : v + 1 = v1) (ht : 0 ≤ t ∧ t < 16) (hx : S 22 (t * 9 + 1 + v) = x) (hr : 0 ≤ x ∧ x ≤ 4) (hv : 0 ≤ v ∧ v < 8) (hP : (2 : Int) ^ (22 + v * 3).toNat = P) (ha : 0 ≤ a ∧ a < P) (hb : a + x * P < 4611686018427387904) : m_X4_settingsOf_L59 t S (n + 1) (Int64.ofInt a) v = m_X4_settingsOf_L59 t S n (Int64.ofInt (a + x * P)) v1 := by
  subst ev
  conv => lhs; unfold m_X4_settingsOf_L59 m_X1_outletOf
  rw [xbs, hx, xl_shl ⟨by omega, by omega⟩ ⟨by omega, by omega⟩ hP, xl_or hP ha hr.1 hb]
  simp (disch := omega) only [xr, xck_t, xck_T, if_pos, if_neg, if_true, if_false, xbs, or_true, true_or, and_true, true_and]
theorem s_17e {S : xS} {t v : Int} {a : Int64} (hv : v = 3) (n : Nat) : m_X4_settingsOf_L17 t S (n + 1) a v = some a := by
  unfold m_X4_settingsOf_L17
  simp (disch := omega) only [xr, xck_t, xck_T, if_pos, if_neg, if_true, if_false, xbs, or_true, true_or, and_true, true_and]
theorem s_59e {S : xS} {t v : Int} {a : Int64} (hv : v = 8) (n : Nat) : m_X4_settingsOf_L59 t S (n + 1) a v = some a := by
  unfold m_X4_settingsOf_L59
  simp (disch := omega) only [xr, xck_t, xck_T, if_pos, if_neg, if_true, if_false, xbs, or_true, true_or, and_true, true_and]
/-- the switches of a tile as a number -/
def zrt (T : xS) (t : Int) : Int := 0 + T 19 (3 * t + 0) * 1024 + T 19 (3 * t + 1) * 16384 + T 19 (3 * t + 2) * 262144 + T 20 (8 * t + 0) * 4194304 + T 20 (8 * t + 1) * 33554432 + T 20 (8 * t + 2) * 268435456 + T 20 (8 * t + 3) * 2147483648 + T 20 (8 * t + 4) * 17179869184 + T 20 (8 * t + 5) * 137438953472 + T 20 (8 * t + 6) * 1099511627776 + T 20 (8 * t + 7) * 8796093022208
theorem p_set4 {S T : xS} (h : zSwt S T) {t : Int} (ht : 0 ≤ t ∧ t < 16) : m_X4_settingsOf t S = some (Int64.ofInt (zrt T t)) := by
  have hp : ∀ i, 0 ≤ i → i < 3 → S 23 (t * 3 + i) = T 19 (3 * t + i) ∧ 0 ≤ T 19 (3 * t + i) ∧ T 19 (3 * t + i) ≤ 9 := fun i i0 i1 => by
    have := h.1 (3 * t + i) (by omega) (by omega)
    rw [show t * 3 + i = 3 * t + i by omega]
    exact this
  have hc : ∀ i, 0 ≤ i → i < 8 → S 22 (t * 9 + 1 + i) = T 20 (8 * t + i) ∧ 0 ≤ T 20 (8 * t + i) ∧ T 20 (8 * t + i) ≤ 4 := fun i i0 i1 => by
    have := h.2 (8 * t + i) (by omega) (by omega)
    rw [show 9 * ((8 * t + i) / 8) + 1 + (8 * t + i) % 8 = t * 9 + 1 + i by omega] at this
    exact this
  obtain ⟨p0, p0r⟩ := hp 0 (by omega) (by omega)
  obtain ⟨p1, p1r⟩ := hp 1 (by omega) (by omega)
  obtain ⟨p2, p2r⟩ := hp 2 (by omega) (by omega)
  obtain ⟨c0, c0r⟩ := hc 0 (by omega) (by omega)
  obtain ⟨c1, c1r⟩ := hc 1 (by omega) (by omega)
  obtain ⟨c2, c2r⟩ := hc 2 (by omega) (by omega)
  obtain ⟨c3, c3r⟩ := hc 3 (by omega) (by omega)
  obtain ⟨c4, c4r⟩ := hc 4 (by omega) (by omega)
  obtain ⟨c5, c5r⟩ := hc 5 (by omega) (by omega)
  obtain ⟨c6, c6r⟩ := hc 6 (by omega) (by omega)
  obtain ⟨c7, c7r⟩ := hc 7 (by omega) (by omega)
  unfold zrt
  generalize T 19 (3 * t + 0) = x0 at *
  generalize T 19 (3 * t + 1) = x1 at *
  generalize T 19 (3 * t + 2) = x2 at *
  generalize T 20 (8 * t + 0) = y0 at *
  generalize T 20 (8 * t + 1) = y1 at *
  generalize T 20 (8 * t + 2) = y2 at *
  generalize T 20 (8 * t + 3) = y3 at *
  generalize T 20 (8 * t + 4) = y4 at *
  generalize T 20 (8 * t + 5) = y5 at *
  generalize T 20 (8 * t + 6) = y6 at *
  generalize T 20 (8 * t + 7) = y7 at *
  clear hp hc
  have a0 := s_17 (S := S) (t := t) (a := 0) (v := 0) (v1 := 1) (P := 1024) 1999 (by omega) ht p0 p0r (by omega) rfl (by omega) (by omega)
  have a1 := s_17 (S := S) (t := t) (a := 0 + x0 * 1024) (v := 1) (v1 := 2) (P := 16384) 1998 (by omega) ht p1 p1r (by omega) rfl (by omega) (by omega)
  have a2 := s_17 (S := S) (t := t) (a := 0 + x0 * 1024 + x1 * 16384) (v := 2) (v1 := 3) (P := 262144) 1997 (by omega) ht p2 p2r (by omega) rfl (by omega) (by omega)
  have a3 := s_17e (S := S) (t := t) (v := 3) (a := Int64.ofInt (0 + x0 * 1024 + x1 * 16384 + x2 * 262144)) (by omega) 1996
  have b0 := s_59 (S := S) (t := t) (a := 0 + x0 * 1024 + x1 * 16384 + x2 * 262144) (v := 0) (v1 := 1) (P := 4194304) 1999 (by omega) ht c0 c0r (by omega) rfl (by omega) (by omega)
  have b1 := s_59 (S := S) (t := t) (a := 0 + x0 * 1024 + x1 * 16384 + x2 * 262144 + y0 * 4194304) (v := 1) (v1 := 2) (P := 33554432) 1998 (by omega) ht c1 c1r (by omega) rfl (by omega) (by omega)
  have b2 := s_59 (S := S) (t := t) (a := 0 + x0 * 1024 + x1 * 16384 + x2 * 262144 + y0 * 4194304 + y1 * 33554432) (v := 2) (v1 := 3) (P := 268435456) 1997 (by omega) ht c2 c2r (by omega) rfl (by omega) (by omega)
  have b3 := s_59 (S := S) (t := t) (a := 0 + x0 * 1024 + x1 * 16384 + x2 * 262144 + y0 * 4194304 + y1 * 33554432 + y2 * 268435456) (v := 3) (v1 := 4) (P := 2147483648) 1996 (by omega) ht c3 c3r (by omega) rfl (by omega) (by omega)
  have b4 := s_59 (S := S) (t := t) (a := 0 + x0 * 1024 + x1 * 16384 + x2 * 262144 + y0 * 4194304 + y1 * 33554432 + y2 * 268435456 + y3 * 2147483648) (v := 4) (v1 := 5) (P := 17179869184) 1995 (by omega) ht c4 c4r (by omega) rfl (by omega) (by omega)
  have b5 := s_59 (S := S) (t := t) (a := 0 + x0 * 1024 + x1 * 16384 + x2 * 262144 + y0 * 4194304 + y1 * 33554432 + y2 * 268435456 + y3 * 2147483648 + y4 * 17179869184) (v := 5) (v1 := 6) (P := 137438953472) 1994 (by omega) ht c5 c5r (by omega) rfl (by omega) (by omega)
  have b6 := s_59 (S := S) (t := t) (a := 0 + x0 * 1024 + x1 * 16384 + x2 * 262144 + y0 * 4194304 + y1 * 33554432 + y2 * 268435456 + y3 * 2147483648 + y4 * 17179869184 + y5 * 137438953472) (v := 6) (v1 := 7) (P := 1099511627776) 1993 (by omega) ht c6 c6r (by omega) rfl (by omega) (by omega)
  have b7 := s_59 (S := S) (t := t) (a := 0 + x0 * 1024 + x1 * 16384 + x2 * 262144 + y0 * 4194304 + y1 * 33554432 + y2 * 268435456 + y3 * 2147483648 + y4 * 17179869184 + y5 * 137438953472 + y6 * 1099511627776) (v := 7) (v1 := 8) (P := 8796093022208) 1992 (by omega) ht c7 c7r (by omega) rfl (by omega) (by omega)
  have b8 := s_59e (S := S) (t := t) (v := 8) (a := Int64.ofInt (0 + x0 * 1024 + x1 * 16384 + x2 * 262144 + y0 * 4194304 + y1 * 33554432 + y2 * 268435456 + y3 * 2147483648 + y4 * 17179869184 + y5 * 137438953472 + y6 * 1099511627776 + y7 * 8796093022208)) (by omega) 1991
  unfold m_X4_settingsOf
  have z0 : (0 : Int64) = Int64.ofInt 0 := rfl
  rw [xck_t ⟨by omega, by omega⟩, if_neg (by omega), if_pos ht.2, z0, a0, a1, a2, a3, xbs, b0, b1, b2, b3, b4, b5, b6, b7, b8, xbs]
theorem z10_all : ∀ x, x < 256 → ∀ a, a < 2 → ∀ b, b < 2 → (xi (xb_ior (xb_ior (x : Nat) (xb_ishl (a : Nat) 8)) (xb_ishl (b : Nat) 9))).toInt64 = Int64.ofInt ((x : Nat) + 256 * (a : Nat) + 512 * (b : Nat)) := by decide +kernel
theorem z10 {x a b : Int} (hx : 0 ≤ x ∧ x ≤ 255) (ha : a = 0 ∨ a = 1) (hb : b = 0 ∨ b = 1) : (xi (xb_ior (xb_ior x (xb_ishl a 8)) (xb_ishl b 9))).toInt64 = Int64.ofInt (x + 256 * a + 512 * b) := by
  have h := z10_all x.toNat (by omega) a.toNat (by omega) b.toNat (by omega)
  rw [Int.toNat_of_nonneg hx.1, Int.toNat_of_nonneg (by omega), Int.toNat_of_nonneg (by omega)] at h
  exact h
/-- the bits of what is on a tile -/
def zlo (T : xS) (t : Int) : Int := if T 14 t < 0 then 0 else T 6 (T 14 t) + 256 * T 7 (T 14 t) + 512 * T 8 (T 14 t)
theorem p_set0 {S T : xS} (h : zPC S T) {t : Int} (ht : 0 ≤ t ∧ t < 16) : (m_X3_cellAt t S).bind (fun r12 => m_X0_settingsOf r12 S) = some (Int64.ofInt (zlo T t)) ∧ 0 ≤ zlo T t ∧ zlo T t < 1024 := by
  obtain ⟨⟨hn, e50, hcc, hss, h7⟩, hN, h1, h2⟩ := h
  obtain ⟨a1, a2, a3⟩ := h1 t ht.1 ht.2
  have e : m_X3_cellAt t S = some (S 15 t) := by
    unfold m_X3_cellAt
    simp (disch := omega) only [xr, xck_t, xck_T, if_pos, if_neg, if_true, if_false, xbs, or_true, true_or, and_true, true_and]
  rw [e, xbs]
  unfold m_X0_settingsOf zlo
  rw [p_hasCell hn ⟨by omega, by omega⟩, ← a1]
  by_cases c : S 15 t < 0
  · rw [if_pos c]
    refine ⟨?_, by omega, by omega⟩
    simp (disch := omega) only [xr, xck_t, xck_T, if_pos, if_neg, if_true, if_false, xbs, or_true, true_or, and_true, true_and]
    rfl
  · obtain ⟨b1, b2, b3, b4, b5, b6, b7⟩ := hcc (S 15 t) (by omega) (by omega)
    rw [if_neg c, b1, b3, b5]
    refine ⟨?_, by omega, by omega⟩
    have er : xck (xr (S 5 (S 15 t))) (if S 5 (S 15 t) = 0 then some (0 : Int) else some 1) = some (S 5 (S 15 t)) := by
      rcases b4 with q | q <;> rw [q] <;> simp (disch := omega) only [xr, xck_t, xck_T, if_pos, if_neg, if_true, if_false, xbs, or_true, true_or, and_true, true_and]
    have ez := z10 b2 b4 b6
    rw [er]
    simp (disch := omega) only [xr, xck_t, xck_T, if_pos, if_neg, if_true, if_false, xbs, or_true, true_or, and_true, true_and, ez]
/-- the model: what stands on the tiles -/
theorem p_mk1 : ∀ (d n : Nat) (v : Int) (T : xS), (∀ t, 0 ≤ t → t < 16 → (-1 ≤ T 14 t ∧ T 14 t < 10) ∧ (0 ≤ T 14 t → (T 7 (T 14 t) = 0 ∨ T 7 (T 14 t) = 1) ∧ (T 8 (T 14 t) = 0 ∨ T 8 (T 14 t) = 1)) ∧ (0 ≤ T 1 t ∧ T 1 t ≤ 1)) → 0 ≤ v → v + d = 16 → d < n →
    ∃ T1, m_X9_makeBits_L2 n v T = some T1 ∧ (∀ q, q ≠ 0 → q ≠ 1 → q ≠ 2 → q ≠ 5 → T1 q = T q) ∧ (∀ t, t < v → T1 0 t = T 0 t ∧ T1 1 t = T 1 t ∧ T1 2 t = T 2 t ∧ T1 5 t = T 5 t) ∧ (∀ t, v ≤ t → t < 16 → T1 0 t = (if T 14 t < 0 then 0 else T 6 (T 14 t)) ∧ T1 1 t = (if T 14 t < 0 then 0 else T 7 (T 14 t)) ∧ T1 2 t = (if T 14 t < 0 then 0 else T 8 (T 14 t)) ∧ T1 5 t = (if (if T 14 t < 0 then 0 else T 7 (T 14 t)) = T 1 t then T 5 t else 0)) := by
  intro d
  induction d with
  | zero =>
    intro n v T h h0 h1 h2
    obtain ⟨n, rfl⟩ : ∃ j, n = j + 1 := ⟨n - 1, by omega⟩
    refine ⟨T, ?_, fun _ _ _ _ _ => rfl, fun _ _ => ⟨rfl, rfl, rfl, rfl⟩, fun t t0 t1 => by omega⟩
    unfold m_X9_makeBits_L2
    simp (disch := omega) only [xr, xck_t, xck_T, if_pos, if_neg, if_true, if_false, xbs, or_true, true_or, and_true, true_and]
  | succ d ih =>
    intro n v T h h0 h1 h2
    obtain ⟨n, rfl⟩ : ∃ j, n = j + 1 := ⟨n - 1, by omega⟩
    obtain ⟨hc, h78, h1r⟩ := h v h0 (by omega)
    obtain ⟨hs, e4, hs01⟩ : ∃ hs, (xck (xr (T 14 v)) (if T 14 v < 0 then some (0 : Int) else (if 0 ≤ T 14 v then some (T 14 v) else some 0).bind (fun r7 => xck (0 ≤ r7 ∧ r7 < 10) (xck (xr (T 7 r7)) (if T 7 r7 = 0 then some 0 else some 1)))) = some hs ∧ hs = (if T 14 v < 0 then 0 else T 7 (T 14 v))) ∧ (hs = 0 ∨ hs = 1) := by
      by_cases c : T 14 v < 0
      · exact ⟨0, ⟨by simp (disch := omega) only [xr, xck_t, xck_T, if_pos, if_neg, if_true, if_false, xbs, or_true, true_or, and_true, true_and], by rw [if_pos c]⟩, Or.inl rfl⟩
      · rcases (h78 (by omega)).1 with q | q
        · exact ⟨0, ⟨by simp (disch := omega) only [xr, xck_t, xck_T, if_pos, if_neg, if_true, if_false, xbs, or_true, true_or, and_true, true_and], by rw [if_neg c, q]⟩, Or.inl rfl⟩
        · exact ⟨1, ⟨by simp (disch := omega) only [xr, xck_t, xck_T, if_pos, if_neg, if_true, if_false, xbs, or_true, true_or, and_true, true_and], by rw [if_neg c, q]⟩, Or.inr rfl⟩
    obtain ⟨fs, e20, fs01⟩ : ∃ fs, (xck (xr (T 14 v)) (if T 14 v < 0 then some (0 : Int) else (if 0 ≤ T 14 v then some (T 14 v) else some 0).bind (fun r23 => xck (0 ≤ r23 ∧ r23 < 10) (xck (xr (T 8 r23)) (if T 8 r23 = 0 then some 0 else some 1)))) = some fs ∧ fs = (if T 14 v < 0 then 0 else T 8 (T 14 v))) ∧ (fs = 0 ∨ fs = 1) := by
      by_cases c : T 14 v < 0
      · exact ⟨0, ⟨by simp (disch := omega) only [xr, xck_t, xck_T, if_pos, if_neg, if_true, if_false, xbs, or_true, true_or, and_true, true_and], by rw [if_pos c]⟩, Or.inl rfl⟩
      · rcases (h78 (by omega)).2 with q | q
        · exact ⟨0, ⟨by simp (disch := omega) only [xr, xck_t, xck_T, if_pos, if_neg, if_true, if_false, xbs, or_true, true_or, and_true, true_and], by rw [if_neg c, q]⟩, Or.inl rfl⟩
        · exact ⟨1, ⟨by simp (disch := omega) only [xr, xck_t, xck_T, if_pos, if_neg, if_true, if_false, xbs, or_true, true_or, and_true, true_and], by rw [if_neg c, q]⟩, Or.inr rfl⟩
    have e15 : xck (xr (T 14 v)) (if 0 ≤ T 14 v then xck (0 ≤ T 14 v ∧ T 14 v < 10) (some (T 6 (T 14 v))) else some 0) = some (if T 14 v < 0 then 0 else T 6 (T 14 v)) := by
      by_cases c : T 14 v < 0
      · rw [if_pos c]
        simp (disch := omega) only [xr, xck_t, xck_T, if_pos, if_neg, if_true, if_false, xbs, or_true, true_or, and_true, true_and]
      · rw [if_neg c]
        simp (disch := omega) only [xr, xck_t, xck_T, if_pos, if_neg, if_true, if_false, xbs, or_true, true_or, and_true, true_and]
    have e12 : xck (xr hs ∧ xr (T 1 v)) (if hs = T 1 v then some (T 5 v) else some 0) = some (if hs = T 1 v then T 5 v else 0) := by
      by_cases c : hs = T 1 v
      · rw [if_pos c, if_pos c]
        simp (disch := omega) only [xr, xck_t, xck_T, if_pos, if_neg, if_true, if_false, xbs, or_true, true_or, and_true, true_and]
      · rw [if_neg c, if_neg c]
        simp (disch := omega) only [xr, xck_t, xck_T, if_pos, if_neg, if_true, if_false, xbs, or_true, true_or, and_true, true_and]
    obtain ⟨T1, i1, i2, i3, i4⟩ := ih n (v + 1) (xup (xup (xup (xup T 5 v (if hs = T 1 v then T 5 v else 0)) 0 v (if T 14 v < 0 then 0 else T 6 (T 14 v))) 1 v hs) 2 v fs) (fun t t0 t1 => by
        have := h t t0 t1
        have e1 : xup (xup (xup (xup T 5 v (if hs = T 1 v then T 5 v else 0)) 0 v (if T 14 v < 0 then 0 else T 6 (T 14 v))) 1 v hs) 2 v fs 1 t = if t = v then hs else T 1 t := by
          rw [xup_q _ _ _ (by decide : (1 : Nat) ≠ 2)]
          by_cases q : t = v
          · rw [if_pos q, q, xup_s]
          · rw [if_neg q, xup_i _ _ _ q, xup_q _ _ _ (by decide : (1 : Nat) ≠ 0), xup_q _ _ _ (by decide : (1 : Nat) ≠ 5)]
        rw [e1]
        simp (disch := omega) only [xup_q]
        refine ⟨this.1, this.2.1, ?_⟩
        by_cases q : t = v
        · rw [if_pos q]
          omega
        · rw [if_neg q]
          exact this.2.2) (by omega) (by omega) (by omega)
    refine ⟨T1, ?_, fun q q0 q1 q2 q5 => by rw [i2 q q0 q1 q2 q5, xup_q _ _ _ q2, xup_q _ _ _ q1, xup_q _ _ _ q0, xup_q _ _ _ q5], fun t ht => ?_, fun t t0 t1 => ?_⟩
    · unfold m_X9_makeBits_L2
      rw [e4.1, xbs, e12, xbs, e15, xbs, e20.1, xbs]
      rw [xck_t ⟨by omega, by omega⟩, if_neg (by omega), xck_t (by omega), xck_t (by omega), xck_t (by omega)]
      exact i1
    · obtain ⟨j0, j1, j2, j5⟩ := i3 t (by omega)
      rw [j0, j1, j2, j5]
      refine ⟨?_, ?_, ?_, ?_⟩
      · simp (disch := omega) only [xr, xck_t, xck_T, if_pos, if_neg, if_true, if_false, xbs, or_true, true_or, and_true, true_and, xup_q, xup_i]
      · simp (disch := omega) only [xr, xck_t, xck_T, if_pos, if_neg, if_true, if_false, xbs, or_true, true_or, and_true, true_and, xup_q, xup_i]
      · simp (disch := omega) only [xr, xck_t, xck_T, if_pos, if_neg, if_true, if_false, xbs, or_true, true_or, and_true, true_and, xup_q, xup_i]
      · simp (disch := omega) only [xr, xck_t, xck_T, if_pos, if_neg, if_true, if_false, xbs, or_true, true_or, and_true, true_and, xup_q, xup_i]
    · by_cases q : t = v
      · obtain ⟨j0, j1, j2, j5⟩ := i3 t (by omega)
        rw [j0, j1, j2, j5, q, ← e4.2, ← e20.2]
        refine ⟨?_, ?_, ?_, ?_⟩
        · rw [xup_q _ _ _ (by decide : (0 : Nat) ≠ 2), xup_q _ _ _ (by decide : (0 : Nat) ≠ 1), xup_s]
        · rw [xup_q _ _ _ (by decide : (1 : Nat) ≠ 2), xup_s]
        · rw [xup_s]
        · rw [xup_q _ _ _ (by decide : (5 : Nat) ≠ 2), xup_q _ _ _ (by decide : (5 : Nat) ≠ 1), xup_q _ _ _ (by decide : (5 : Nat) ≠ 0), xup_s]
      · have := i4 t (by omega) t1
        have e1 : xup (xup (xup (xup T 5 v (if hs = T 1 v then T 5 v else 0)) 0 v (if T 14 v < 0 then 0 else T 6 (T 14 v))) 1 v hs) 2 v fs 1 t = T 1 t := by
          rw [xup_q _ _ _ (by decide : (1 : Nat) ≠ 2), xup_i _ _ _ q, xup_q _ _ _ (by decide : (1 : Nat) ≠ 0), xup_q _ _ _ (by decide : (1 : Nat) ≠ 5)]
        have e5 : xup (xup (xup (xup T 5 v (if hs = T 1 v then T 5 v else 0)) 0 v (if T 14 v < 0 then 0 else T 6 (T 14 v))) 1 v hs) 2 v fs 5 t = T 5 t := by
          rw [xup_q _ _ _ (by decide : (5 : Nat) ≠ 2), xup_q _ _ _ (by decide : (5 : Nat) ≠ 1), xup_q _ _ _ (by decide : (5 : Nat) ≠ 0), xup_i _ _ _ q]
        rw [e1, e5] at this
        simp (disch := omega) only [xup_q] at this
        exact this
theorem p_mk3 : ∀ (d n : Nat) (v : Int) (T : xS), 0 ≤ v → v + d = 48 → d < n → ∃ T1, m_X9_makeBits_L135 n v T = some T1 ∧ (∀ q, q ≠ 3 → T1 q = T q) ∧ (∀ w, w < v → T1 3 w = T 3 w) ∧ (∀ w, v ≤ w → w < 48 → T1 3 w = T 19 w) := by
  intro d
  induction d with
  | zero =>
    intro n v T h0 h1 h2
    obtain ⟨n, rfl⟩ : ∃ j, n = j + 1 := ⟨n - 1, by omega⟩
    refine ⟨T, ?_, fun _ _ => rfl, fun _ _ => rfl, fun w w0 w1 => by omega⟩
    unfold m_X9_makeBits_L135
    simp (disch := omega) only [xr, xck_t, xck_T, if_pos, if_neg, if_true, if_false, xbs, or_true, true_or, and_true, true_and]
  | succ d ih =>
    intro n v T h0 h1 h2
    obtain ⟨n, rfl⟩ : ∃ j, n = j + 1 := ⟨n - 1, by omega⟩
    obtain ⟨T1, i1, i2, i3, i4⟩ := ih n (v + 1) (xup T 3 v (T 19 v)) (by omega) (by omega) (by omega)
    refine ⟨T1, ?_, fun q hq => by rw [i2 q hq, xup_q _ _ _ hq], fun w hw => by rw [i3 w (by omega), xup_i _ _ _ (by omega)], fun w w0 w1 => ?_⟩
    · unfold m_X9_makeBits_L135
      simp (disch := omega) only [xr, xck_t, xck_T, if_pos, if_neg, if_true, if_false, xbs, or_true, true_or, and_true, true_and]
      exact i1
    · by_cases q : w = v
      · rw [i3 w (by omega), q, xup_s]
      · rw [i4 w (by omega) w1, xup_q _ _ _ (by decide : (19 : Nat) ≠ 3)]
theorem p_mk4 : ∀ (d n : Nat) (v : Int) (T : xS), 0 ≤ v → v + d = 128 → d < n → ∃ T1, m_X9_makeBits_L161 n v T = some T1 ∧ (∀ q, q ≠ 4 → T1 q = T q) ∧ (∀ w, w < v → T1 4 w = T 4 w) ∧ (∀ w, v ≤ w → w < 128 → T1 4 w = T 20 w) := by
  intro d
  induction d with
  | zero =>
    intro n v T h0 h1 h2
    obtain ⟨n, rfl⟩ : ∃ j, n = j + 1 := ⟨n - 1, by omega⟩
    refine ⟨T, ?_, fun _ _ => rfl, fun _ _ => rfl, fun w w0 w1 => by omega⟩
    unfold m_X9_makeBits_L161
    simp (disch := omega) only [xr, xck_t, xck_T, if_pos, if_neg, if_true, if_false, xbs, or_true, true_or, and_true, true_and]
  | succ d ih =>
    intro n v T h0 h1 h2
    obtain ⟨n, rfl⟩ : ∃ j, n = j + 1 := ⟨n - 1, by omega⟩
    obtain ⟨T1, i1, i2, i3, i4⟩ := ih n (v + 1) (xup T 4 v (T 20 v)) (by omega) (by omega) (by omega)
    refine ⟨T1, ?_, fun q hq => by rw [i2 q hq, xup_q _ _ _ hq], fun w hw => by rw [i3 w (by omega), xup_i _ _ _ (by omega)], fun w w0 w1 => ?_⟩
    · unfold m_X9_makeBits_L161
      simp (disch := omega) only [xr, xck_t, xck_T, if_pos, if_neg, if_true, if_false, xbs, or_true, true_or, and_true, true_and]
      exact i1
    · by_cases q : w = v
      · rw [i3 w (by omega), q, xup_s]
      · rw [i4 w (by omega) w1, xup_q _ _ _ (by decide : (20 : Nat) ≠ 4)]
theorem p_mk12 : ∀ (d n : Nat) (v : Int) (T : xS), (0 ≤ T 50 0 ∧ T 50 0 ≤ 10) → 0 ≤ v → v + d = T 50 0 → d < n → ∃ T1, m_X9_makeBits_L204 n v T = some T1 ∧ (∀ q, q ≠ 12 → T1 q = T q) ∧ (∀ w, w < v → T1 12 w = T 12 w) ∧ (∀ w, v ≤ w → w < T 50 0 → T1 12 w = T 13 w) := by
  intro d
  induction d with
  | zero =>
    intro n v T hn h0 h1 h2
    obtain ⟨n, rfl⟩ : ∃ j, n = j + 1 := ⟨n - 1, by omega⟩
    refine ⟨T, ?_, fun _ _ => rfl, fun _ _ => rfl, fun w w0 w1 => by omega⟩
    unfold m_X9_makeBits_L204
    simp (disch := omega) only [xr, xck_t, xck_T, if_pos, if_neg, if_true, if_false, xbs, or_true, true_or, and_true, true_and]
  | succ d ih =>
    intro n v T hn h0 h1 h2
    obtain ⟨n, rfl⟩ : ∃ j, n = j + 1 := ⟨n - 1, by omega⟩
    have e50 : xup T 12 v (T 13 v) 50 = T 50 := xup_q _ _ _ (by decide)
    obtain ⟨T1, i1, i2, i3, i4⟩ := ih n (v + 1) (xup T 12 v (T 13 v)) (by rw [e50]; exact hn) (by omega) (by rw [e50]; omega) (by omega)
    rw [e50] at i4
    refine ⟨T1, ?_, fun q hq => by rw [i2 q hq, xup_q _ _ _ hq], fun w hw => by rw [i3 w (by omega), xup_i _ _ _ (by omega)], fun w w0 w1 => ?_⟩
    · unfold m_X9_makeBits_L204
      simp (disch := omega) only [xr, xck_t, xck_T, if_pos, if_neg, if_true, if_false, xbs, or_true, true_or, and_true, true_and]
      exact i1
    · by_cases q : w = v
      · rw [i3 w (by omega), q, xup_s]
      · rw [i4 w (by omega) w1, xup_q _ _ _ (by decide : (13 : Nat) ≠ 12)]
theorem p_kp33 (x : Int) : ∀ (d n : Nat) (v : Int) (S : xS), (0 ≤ S 50 0 ∧ S 50 0 ≤ 10) → 0 ≤ v → v + d = 10 → d < n → ∃ S1, m_X8_keepBuilding_L2 x n v S = some S1 ∧ (∀ q, q ≠ 33 → S1 q = S q) ∧ (∀ c, c < v → S1 33 c = S 33 c) ∧ (∀ c, v ≤ c → c < 10 → S1 33 c = if c < S 50 0 then S 16 c else -1) := by
  intro d
  induction d with
  | zero =>
    intro n v S hn h0 h1 h2
    obtain ⟨n, rfl⟩ : ∃ j, n = j + 1 := ⟨n - 1, by omega⟩
    refine ⟨S, ?_, fun _ _ => rfl, fun _ _ => rfl, fun w w0 w1 => by omega⟩
    unfold m_X8_keepBuilding_L2
    simp (disch := omega) only [xr, xck_t, xck_T, if_pos, if_neg, if_true, if_false, xbs, or_true, true_or, and_true, true_and]
  | succ d ih =>
    intro n v S hn h0 h1 h2
    obtain ⟨n, rfl⟩ : ∃ j, n = j + 1 := ⟨n - 1, by omega⟩
    have e50 : xup S 33 v (if v < S 50 0 then S 16 v else -1) 50 = S 50 := xup_q _ _ _ (by decide)
    obtain ⟨S1, i1, i2, i3, i4⟩ := ih n (v + 1) (xup S 33 v (if v < S 50 0 then S 16 v else -1)) (by rw [e50]; exact hn) (by omega) (by omega) (by omega)
    rw [e50, xup_q _ _ _ (by decide : (16 : Nat) ≠ 33)] at i4
    refine ⟨S1, ?_, fun q hq => by rw [i2 q hq, xup_q _ _ _ hq], fun w hw => by rw [i3 w (by omega), xup_i _ _ _ (by omega)], fun w w0 w1 => ?_⟩
    · unfold m_X8_keepBuilding_L2 m_X3_siteOf
      rw [p_hasCell hn ⟨by omega, by omega⟩]
      by_cases q : v < S 50 0
      · rw [if_pos q] at i1
        simp (disch := omega) only [xr, xck_t, xck_T, if_pos, if_neg, if_true, if_false, xbs, or_true, true_or, and_true, true_and]
        exact i1
      · rw [if_neg q] at i1
        simp (disch := omega) only [xr, xck_t, xck_T, if_pos, if_neg, if_true, if_false, xbs, or_true, true_or, and_true, true_and]
        exact i1
    · by_cases q : w = v
      · rw [i3 w (by omega), q, xup_s]
      · exact i4 w (by omega) w1
theorem p_setB {S : xS} {t b : Int} (ht : 0 ≤ t ∧ t < 16) (hS : 0 ≤ S 26 t ∧ S 26 t < 70368744177664) (hb : 0 ≤ b ∧ b < 70368744177664) : ∃ S1, m_X5_setBits t (Int64.ofInt b) S = some S1 ∧ (∀ q, q ≠ 26 → q ≠ 27 → S1 q = S q) ∧ (∀ u, S1 26 u = if u = t then b else S 26 u) ∧ (∀ u, S1 27 u = if u = t then (if b / 256 % 2 = S 26 t / 256 % 2 then S 27 t else 0) else S 27 u) := by
  have hreg := p_hasReg ht hS
  have hreg2 := p_hasReg (S := xup S 26 t b) ht (by rw [xup_s]; exact hb)
  rw [xup_s] at hreg2
  have x26 : ∀ u, xup S 26 t b 26 u = if u = t then b else S 26 u := fun u => by
    by_cases v : u = t
    · rw [if_pos v, v, xup_s]
    · rw [if_neg v, xup_i _ _ _ v]
  unfold m_X5_setBits
  rw [xl_toInt ⟨hb.1, by omega⟩, hreg, xbs, hreg2, xbs]
  by_cases q : b / 256 % 2 = S 26 t / 256 % 2
  · refine ⟨xup S 26 t b, ?_, fun x x1 x2 => xup_q _ _ _ x1, x26, fun u => ?_⟩
    · simp (disch := omega) only [xr, xck_t, xck_T, if_pos, if_neg, if_true, if_false, xbs, or_true, true_or, and_true, true_and]
    · rw [xup_q _ _ _ (by decide : (27 : Nat) ≠ 26), if_pos q]
      by_cases v : u = t
      · rw [if_pos v, v]
      · rw [if_neg v]
  · refine ⟨xup (xup S 26 t b) 27 t 0, ?_, fun x x1 x2 => by rw [xup_q _ _ _ x2, xup_q _ _ _ x1], fun u => ?_, fun u => ?_⟩
    · simp (disch := omega) only [xr, xck_t, xck_T, if_pos, if_neg, if_true, if_false, xbs, or_true, true_or, and_true, true_and]
    · rw [xup_q _ _ _ (by decide : (26 : Nat) ≠ 27)]
      exact x26 u
    · rw [if_neg q]
      by_cases v : u = t
      · rw [if_pos v, v, xup_s]
      · rw [if_neg v, xup_i _ _ _ v, xup_q _ _ _ (by decide : (27 : Nat) ≠ 26)]
/-- the class: the bits of all tiles -/
theorem p_kp26 (N : Int → Int) : ∀ (d n : Nat) (v : Int) (S : xS), (∀ S1, (∀ q, q ≠ 26 → q ≠ 27 → S1 q = S q) → ∀ t, 0 ≤ t → t < 16 → ∃ a b, (m_X3_cellAt t S1).bind (fun r12 => m_X0_settingsOf r12 S1) = some a ∧ m_X4_settingsOf t S1 = some b ∧ a ||| b = Int64.ofInt (N t)) → (∀ t, 0 ≤ t → t < 16 → (0 ≤ S 26 t ∧ S 26 t < 70368744177664) ∧ (0 ≤ N t ∧ N t < 70368744177664)) → 0 ≤ v → v + d = 16 → d < n →
    ∃ S1, m_X8_keepBuilding_L50 n v S = some S1 ∧ (∀ q, q ≠ 26 → q ≠ 27 → S1 q = S q) ∧ (∀ t, t < v → S1 26 t = S 26 t ∧ S1 27 t = S 27 t) ∧ (∀ t, v ≤ t → t < 16 → S1 26 t = N t ∧ S1 27 t = if N t / 256 % 2 = S 26 t / 256 % 2 then S 27 t else 0) := by
  intro d
  induction d with
  | zero =>
    intro n v S hN hr h0 h1 h2
    obtain ⟨n, rfl⟩ : ∃ j, n = j + 1 := ⟨n - 1, by omega⟩
    refine ⟨S, ?_, fun _ _ _ => rfl, fun _ _ => ⟨rfl, rfl⟩, fun w w0 w1 => by omega⟩
    unfold m_X8_keepBuilding_L50
    simp (disch := omega) only [xr, xck_t, xck_T, if_pos, if_neg, if_true, if_false, xbs, or_true, true_or, and_true, true_and]
  | succ d ih =>
    intro n v S hN hr h0 h1 h2
    obtain ⟨n, rfl⟩ : ∃ j, n = j + 1 := ⟨n - 1, by omega⟩
    obtain ⟨a, b, e1, e2, e3⟩ := hN S (fun _ _ _ => rfl) v h0 (by omega)
    obtain ⟨r1, r2⟩ := hr v h0 (by omega)
    obtain ⟨S1, s1, s2, s3, s4⟩ := p_setB (S := S) (t := v) (b := N v) ⟨h0, by omega⟩ r1 r2
    obtain ⟨S2, i1, i2, i3, i4⟩ := ih n (v + 1) S1 (fun S3 h3 => hN S3 (fun q q1 q2 => by rw [h3 q q1 q2, s2 q q1 q2])) (fun t t0 t1 => by
        have := hr t t0 t1
        rw [s3 t]
        by_cases c : t = v
        · rw [if_pos c]
          exact ⟨r2, this.2⟩
        · rw [if_neg c]
          exact this) (by omega) (by omega) (by omega)
    refine ⟨S2, ?_, fun q q1 q2 => by rw [i2 q q1 q2, s2 q q1 q2], fun t ht => ?_, fun t t0 t1 => ?_⟩
    · unfold m_X8_keepBuilding_L50
      have ec : m_X3_cellAt v S = some (S 15 v) := by
        unfold m_X3_cellAt
        simp (disch := omega) only [xr, xck_t, xck_T, if_pos, if_neg, if_true, if_false, xbs, or_true, true_or, and_true, true_and]
      rw [ec, xbs] at e1
      rw [ec, xbs, e1, xbs, e2, xbs, e3, s1, xbs]
      simp (disch := omega) only [xr, xck_t, xck_T, if_pos, if_neg, if_true, if_false, xbs, or_true, true_or, and_true, true_and]
      exact i1
    · rw [(i3 t (by omega)).1, (i3 t (by omega)).2, s3 t, s4 t, if_neg (by omega), if_neg (by omega)]
      exact ⟨rfl, rfl⟩
    · by_cases c : t = v
      · rw [(i3 t (by omega)).1, (i3 t (by omega)).2, s3 t, s4 t, if_pos c, if_pos c, c]
        exact ⟨rfl, rfl⟩
      · have := i4 t (by omega) t1
        rw [s3 t, s4 t, if_neg c, if_neg c] at this
        exact this
