/-! load -/
theorem lc_lt {a b : Int64} : xb_lcmp a b < 0 ↔ a < b := by
  unfold xb_lcmp
  by_cases h : a > b
  · rw [if_pos h]
    exact ⟨fun q => absurd q (by decide), fun q => absurd (Int64.lt_trans h q) Int64.lt_irrefl⟩
  · rw [if_neg h]
    by_cases e : a = b
    · rw [if_pos e, e]
      exact ⟨fun q => absurd q (by decide), fun q => absurd q Int64.lt_irrefl⟩
    · rw [if_neg e]
      refine ⟨fun _ => ?_, fun _ => by decide⟩
      rw [Int64.lt_iff_toInt_lt]
      have h2 : ¬ b.toInt < a.toInt := fun q => h (Int64.lt_iff_toInt_lt.mpr q)
      have h3 : ¬ a.toInt = b.toInt := fun q => e (Int64.toInt_inj.mp q)
      omega
theorem lc_gt {a b : Int64} : 0 < xb_lcmp a b ↔ b < a := by
  unfold xb_lcmp
  by_cases h : a > b
  · rw [if_pos h]
    exact ⟨fun _ => h, fun _ => by decide⟩
  · rw [if_neg h]
    by_cases e : a = b
    · rw [if_pos e]
      exact ⟨fun q => absurd q (by decide), fun q => absurd q h⟩
    · rw [if_neg e]
      exact ⟨fun q => absurd q (by decide), fun q => absurd q h⟩
theorem lc_eq {a b : Int64} : xb_lcmp a b = 0 ↔ a = b := by
  unfold xb_lcmp
  by_cases h : a > b
  · rw [if_pos h]
    exact ⟨fun q => absurd q (by decide), fun q => absurd (q ▸ h) Int64.lt_irrefl⟩
  · rw [if_neg h]
    by_cases e : a = b
    · rw [if_pos e]
      exact ⟨fun _ => e, fun _ => rfl⟩
    · rw [if_neg e]
      exact ⟨fun q => absurd q (by decide), fun q => absurd q e⟩
theorem xl_lt {a b : Int} (ha : 0 ≤ a ∧ a < 4611686018427387904) (hb : 0 ≤ b ∧ b < 4611686018427387904) : Int64.ofInt a < Int64.ofInt b ↔ a < b := by
  rw [Int64.lt_iff_toInt_lt, xl_toInt ha, xl_toInt hb]
theorem xl_neg (b : Int64) : b < 0 ↔ b.toInt < 0 := by
  rw [Int64.lt_iff_toInt_lt]
  exact Iff.rfl
/-- what is a legal word of bits -/
def zlegal (B : Int) : Prop := ((B / 1024 % 16 < 10 ∧ B / 16384 % 16 < 10) ∧ B / 262144 % 16 < 10) ∧ ((B / 4194304 % 8 < 5 ∧ B / 33554432 % 8 < 5) ∧ (B / 268435456 % 8 < 5 ∧ B / 2147483648 % 8 < 5)) ∧ ((B / 17179869184 % 8 < 5 ∧ B / 137438953472 % 8 < 5) ∧ (B / 1099511627776 % 8 < 5 ∧ B / 8796093022208 % 8 < 5))
theorem s_18 {B v P : Int} (hB : 0 ≤ B ∧ B < 70368744177664) (hv : 0 ≤ v ∧ v < 3) (hP : (2 : Int) ^ (10 + v * 4).toNat = P) (n : Nat) : m_X5_areLegal_L18 (Int64.ofInt B) (n + 1) v = if B / P % 16 < 10 then m_X5_areLegal_L18 (Int64.ofInt B) n (v + 1) else some (.inr 0) := by
  conv => lhs; unfold m_X5_areLegal_L18
  rw [p_pinS hB hv hP, xbs]
  simp (disch := omega) only [xr, xck_t, xck_T, if_pos, if_neg, if_true, if_false, xbs, or_true, true_or, and_true, true_and]
theorem s_43 {B v P : Int} (hB : 0 ≤ B ∧ B < 70368744177664) (hv : 0 ≤ v ∧ v < 8) (hP : (2 : Int) ^ (22 + v * 3).toNat = P) (n : Nat) : m_X5_areLegal_L43 (Int64.ofInt B) (n + 1) v = if B / P % 8 < 5 then m_X5_areLegal_L43 (Int64.ofInt B) n (v + 1) else some (.inr 0) := by
  conv => lhs; unfold m_X5_areLegal_L43
  rw [p_chS hB hv hP, xbs]
  simp (disch := omega) only [xr, xck_t, xck_T, if_pos, if_neg, if_true, if_false, xbs, or_true, true_or, and_true, true_and]
theorem s_18e {p : Int64} {v : Int} (hv : v = 3) (n : Nat) : m_X5_areLegal_L18 p (n + 1) v = some (.inl ()) := by
  unfold m_X5_areLegal_L18
  simp (disch := omega) only [xr, xck_t, xck_T, if_pos, if_neg, if_true, if_false, xbs, or_true, true_or, and_true, true_and]
theorem s_43e {p : Int64} {v : Int} (hv : v = 8) (n : Nat) : m_X5_areLegal_L43 p (n + 1) v = some (.inl ()) := by
  unfold m_X5_areLegal_L43
  simp (disch := omega) only [xr, xck_t, xck_T, if_pos, if_neg, if_true, if_false, xbs, or_true, true_or, and_true, true_and]
theorem p_legal {B : Int} (hB : 0 ≤ B ∧ B < 70368744177664) : (zlegal B ∧ m_X5_areLegal (Int64.ofInt B) = some 1) ∨ (¬ zlegal B ∧ m_X5_areLegal (Int64.ofInt B) = some 0) := by
  have e1 : ¬ xb_lcmp (Int64.ofInt B) (0 : Int64) < 0 := fun h => by
    have h2 := (xl_lt (a := B) (b := 0) ⟨hB.1, by omega⟩ ⟨by omega, by omega⟩).mp (lc_lt.mp h)
    omega
  have e2 : xb_lcmp (Int64.ofInt B) (70368744177664 : Int64) < 0 := lc_lt.mpr ((xl_lt (a := B) (b := 70368744177664) ⟨hB.1, by omega⟩ ⟨by omega, by omega⟩).mpr hB.2)
  unfold m_X5_areLegal
  rw [if_neg e1, if_pos e2]
  rw [s_18 (P := 1024) hB (by decide) rfl 1999, s_18 (P := 16384) hB (by decide) rfl 1998, s_18 (P := 262144) hB (by decide) rfl 1997, s_18e (v := 0 + 1 + 1 + 1) (by decide) 1996]
  rw [s_43 (P := 4194304) hB (by decide) rfl 1999, s_43 (P := 33554432) hB (by decide) rfl 1998, s_43 (P := 268435456) hB (by decide) rfl 1997, s_43 (P := 2147483648) hB (by decide) rfl 1996, s_43 (P := 17179869184) hB (by decide) rfl 1995, s_43 (P := 137438953472) hB (by decide) rfl 1994, s_43 (P := 1099511627776) hB (by decide) rfl 1993, s_43 (P := 8796093022208) hB (by decide) rfl 1992, s_43e (v := 0 + 1 + 1 + 1 + 1 + 1 + 1 + 1 + 1) (by decide) 1991]
  unfold zlegal
  by_cases p0 : B / 1024 % 16 < 10
  · by_cases p1 : B / 16384 % 16 < 10
    · by_cases p2 : B / 262144 % 16 < 10
      · by_cases c0 : B / 4194304 % 8 < 5
        · by_cases c1 : B / 33554432 % 8 < 5
          · by_cases c2 : B / 268435456 % 8 < 5
            · by_cases c3 : B / 2147483648 % 8 < 5
              · by_cases c4 : B / 17179869184 % 8 < 5
                · by_cases c5 : B / 137438953472 % 8 < 5
                  · by_cases c6 : B / 1099511627776 % 8 < 5
                    · by_cases c7 : B / 8796093022208 % 8 < 5
                      · left; exact ⟨⟨⟨⟨p0, p1⟩, p2⟩, ⟨⟨c0, c1⟩, c2, c3⟩, ⟨c4, c5⟩, c6, c7⟩, by simp only [if_pos p0, if_pos p1, if_pos p2, if_pos c0, if_pos c1, if_pos c2, if_pos c3, if_pos c4, if_pos c5, if_pos c6, if_pos c7, xbs]⟩
                      · right; exact ⟨fun h => c7 h.2.2.2.2, by simp only [if_pos p0, if_pos p1, if_pos p2, if_pos c0, if_pos c1, if_pos c2, if_pos c3, if_pos c4, if_pos c5, if_pos c6, if_neg c7, xbs]⟩
                    · right; exact ⟨fun h => c6 h.2.2.2.1, by simp only [if_pos p0, if_pos p1, if_pos p2, if_pos c0, if_pos c1, if_pos c2, if_pos c3, if_pos c4, if_pos c5, if_neg c6, xbs]⟩
                  · right; exact ⟨fun h => c5 h.2.2.1.2, by simp only [if_pos p0, if_pos p1, if_pos p2, if_pos c0, if_pos c1, if_pos c2, if_pos c3, if_pos c4, if_neg c5, xbs]⟩
                · right; exact ⟨fun h => c4 h.2.2.1.1, by simp only [if_pos p0, if_pos p1, if_pos p2, if_pos c0, if_pos c1, if_pos c2, if_pos c3, if_neg c4, xbs]⟩
              · right; exact ⟨fun h => c3 h.2.1.2.2, by simp only [if_pos p0, if_pos p1, if_pos p2, if_pos c0, if_pos c1, if_pos c2, if_neg c3, xbs]⟩
            · right; exact ⟨fun h => c2 h.2.1.2.1, by simp only [if_pos p0, if_pos p1, if_pos p2, if_pos c0, if_pos c1, if_neg c2, xbs]⟩
          · right; exact ⟨fun h => c1 h.2.1.1.2, by simp only [if_pos p0, if_pos p1, if_pos p2, if_pos c0, if_neg c1, xbs]⟩
        · right; exact ⟨fun h => c0 h.2.1.1.1, by simp only [if_pos p0, if_pos p1, if_pos p2, if_neg c0, xbs]⟩
      · right; exact ⟨fun h => p2 h.1.2, by simp only [if_pos p0, if_pos p1, if_neg p2, xbs]⟩
    · right; exact ⟨fun h => p1 h.1.1.2, by simp only [if_pos p0, if_neg p1, xbs]⟩
  · right; exact ⟨fun h => p0 h.1.1.1, by simp only [if_neg p0, xbs]⟩
