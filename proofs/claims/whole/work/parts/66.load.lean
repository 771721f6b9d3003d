/-! load -/
theorem lc_lt {a b : Int64} : xb_lcmp a b < 0 ↔ a < b := by
  unfold xb_lcmp
  by_cases h : a > b
  · rw [if_pos h]
    exact ⟨fun q => absurd q (by decide), fun q => absurd (Int64.lt_trans h q) Int64.lt_irrefl⟩
  · rw [if_neg h]
    by_cases e : a = b
    · rw [if_pos e, e]
      exact ⟨fun q => absurd q (by decide), fun q => absurd q Int64.lt_irrefl⟩
    · rw [if_neg e]
      refine ⟨fun _ => ?_, fun _ => by decide⟩
      rw [Int64.lt_iff_toInt_lt]
      have h2 : ¬ b.toInt < a.toInt := fun q => h (Int64.lt_iff_toInt_lt.mpr q)
      have h3 : ¬ a.toInt = b.toInt := fun q => e (Int64.toInt_inj.mp q)
      omega
theorem lc_gt {a b : Int64} : 0 < xb_lcmp a b ↔ b < a := by
  unfold xb_lcmp
  by_cases h : a > b
  · rw [if_pos h]
    exact ⟨fun _ => h, fun _ => by decide⟩
  · rw [if_neg h]
    by_cases e : a = b
    · rw [if_pos e]
      exact ⟨fun q => absurd q (by decide), fun q => absurd q h⟩
    · rw [if_neg e]
      exact ⟨fun q => absurd q (by decide), fun q => absurd q h⟩
theorem lc_eq {a b : Int64} : xb_lcmp a b = 0 ↔ a = b := by
  unfold xb_lcmp
  by_cases h : a > b
  · rw [if_pos h]
    exact ⟨fun q => absurd q (by decide), fun q => absurd (q ▸ h) Int64.lt_irrefl⟩
  · rw [if_neg h]
    by_cases e : a = b
    · rw [if_pos e]
      exact ⟨fun _ => e, fun _ => rfl⟩
    · rw [if_neg e]
      exact ⟨fun q => absurd q (by decide), fun q => absurd q e⟩
theorem xl_lt {a b : Int} (ha : 0 ≤ a ∧ a < 4611686018427387904) (hb : 0 ≤ b ∧ b < 4611686018427387904) : Int64.ofInt a < Int64.ofInt b ↔ a < b := by
  rw [Int64.lt_iff_toInt_lt, xl_toInt ha, xl_toInt hb]
theorem xl_neg (b : Int64) : b < 0 ↔ b.toInt < 0 := by
  rw [Int64.lt_iff_toInt_lt]
  exact Iff.rfl
/-- what is a legal word of bits -/
def zlegal (B : Int) : Prop := ((B / 1024 % 16 < 10 ∧ B / 16384 % 16 < 10) ∧ B / 262144 % 16 < 10) ∧ ((B / 4194304 % 8 < 5 ∧ B / 33554432 % 8 < 5) ∧ (B / 268435456 % 8 < 5 ∧ B / 2147483648 % 8 < 5)) ∧ ((B / 17179869184 % 8 < 5 ∧ B / 137438953472 % 8 < 5) ∧ (B / 1099511627776 % 8 < 5 ∧ B / 8796093022208 % 8 < 5))
theorem s_18 {B v P : Int} (hB : 0 ≤ B ∧ B < 70368744177664) (hv : 0 ≤ v ∧ v < 3) (hP : (2 : Int) ^ (10 + v * 4).toNat = P) (n : Nat) : m_X5_areLegal_L18 (Int64.ofInt B) (n + 1) v = if B / P % 16 < 10 then m_X5_areLegal_L18 (Int64.ofInt B) n (v + 1) else some (.inr 0) := by
  conv => lhs; unfold m_X5_areLegal_L18
  rw [p_pinS hB hv hP, xbs]
  simp (disch := omega) only [xr, xck_t, xck_T, if_pos, if_neg, if_true, if_false, xbs, or_true, true_or, and_true, true_and]
theorem s_43 {B v P : Int} (hB : 0 ≤ B ∧ B < 70368744177664) (hv : 0 ≤ v ∧ v < 8) (hP : (2 : Int) ^ (22 + v * 3).toNat = P) (n : Nat) : m_X5_areLegal_L43 (Int64.ofInt B) (n + 1) v = if B / P % 8 < 5 then m_X5_areLegal_L43 (Int64.ofInt B) n (v + 1) else some (.inr 0) := by
  conv => lhs; unfold m_X5_areLegal_L43
  rw [p_chS hB hv hP, xbs]
  simp (disch := omega) only [xr, xck_t, xck_T, if_pos, if_neg, if_true, if_false, xbs, or_true, true_or, and_true, true_and]
theorem s_18e {p : Int64} {v : Int} (hv : v = 3) (n : Nat) : m_X5_areLegal_L18 p (n + 1) v = some (.inl ()) := by
  unfold m_X5_areLegal_L18
  simp (disch := omega) only [xr, xck_t, xck_T, if_pos, if_neg, if_true, if_false, xbs, or_true, true_or, and_true, true_and]
theorem s_43e {p : Int64} {v : Int} (hv : v = 8) (n : Nat) : m_X5_areLegal_L43 p (n + 1) v = some (.inl ()) := by
  unfold m_X5_areLegal_L43
  simp (disch := omega) only [xr, xck_t, xck_T, if_pos, if_neg, if_true, if_false, xbs, or_true, true_or, and_true, true_and]
theorem p_legal {B : Int} (hB : 0 ≤ B ∧ B < 70368744177664) : (zlegal B ∧ m_X5_areLegal (Int64.ofInt B) = some 1) ∨ (¬ zlegal B ∧ m_X5_areLegal (Int64.ofInt B) = some 0) := by
  have e1 : ¬ xb_lcmp (Int64.ofInt B) (0 : Int64) < 0 := fun h => by
    have h2 := (xl_lt (a := B) (b := 0) ⟨hB.1, by omega⟩ ⟨by omega, by omega⟩).mp (lc_lt.mp h)
    omega
  have e2 : xb_lcmp (Int64.ofInt B) (70368744177664 : Int64) < 0 := lc_lt.mpr ((xl_lt (a := B) (b := 70368744177664) ⟨hB.1, by omega⟩ ⟨by omega, by omega⟩).mpr hB.2)
  unfold m_X5_areLegal
  rw [if_neg e1, if_pos e2]
  rw [s_18 (P := 1024) hB (by decide) rfl 1999, s_18 (P := 16384) hB (by decide) rfl 1998, s_18 (P := 262144) hB (by decide) rfl 1997, s_18e (v := 0 + 1 + 1 + 1) (by decide) 1996]
  rw [s_43 (P := 4194304) hB (by decide) rfl 1999, s_43 (P := 33554432) hB (by decide) rfl 1998, s_43 (P := 268435456) hB (by decide) rfl 1997, s_43 (P := 2147483648) hB (by decide) rfl 1996, s_43 (P := 17179869184) hB (by decide) rfl 1995, s_43 (P := 137438953472) hB (by decide) rfl 1994, s_43 (P := 1099511627776) hB (by decide) rfl 1993, s_43 (P := 8796093022208) hB (by decide) rfl 1992, s_43e (v := 0 + 1 + 1 + 1 + 1 + 1 + 1 + 1 + 1) (by decide) 1991]
  unfold zlegal
  by_cases p0 : B / 1024 % 16 < 10
  · by_cases p1 : B / 16384 % 16 < 10
    · by_cases p2 : B / 262144 % 16 < 10
      · by_cases c0 : B / 4194304 % 8 < 5
        · by_cases c1 : B / 33554432 % 8 < 5
          · by_cases c2 : B / 268435456 % 8 < 5
            · by_cases c3 : B / 2147483648 % 8 < 5
              · by_cases c4 : B / 17179869184 % 8 < 5
                · by_cases c5 : B / 137438953472 % 8 < 5
                  · by_cases c6 : B / 1099511627776 % 8 < 5
                    · by_cases c7 : B / 8796093022208 % 8 < 5
                      · left; exact ⟨⟨⟨⟨p0, p1⟩, p2⟩, ⟨⟨c0, c1⟩, c2, c3⟩, ⟨c4, c5⟩, c6, c7⟩, by simp only [if_pos p0, if_pos p1, if_pos p2, if_pos c0, if_pos c1, if_pos c2, if_pos c3, if_pos c4, if_pos c5, if_pos c6, if_pos c7, xbs]⟩
                      · right; exact ⟨fun h => c7 h.2.2.2.2, by simp only [if_pos p0, if_pos p1, if_pos p2, if_pos c0, if_pos c1, if_pos c2, if_pos c3, if_pos c4, if_pos c5, if_pos c6, if_neg c7, xbs]⟩
                    · right; exact ⟨fun h => c6 h.2.2.2.1, by simp only [if_pos p0, if_pos p1, if_pos p2, if_pos c0, if_pos c1, if_pos c2, if_pos c3, if_pos c4, if_pos c5, if_neg c6, xbs]⟩
                  · right; exact ⟨fun h => c5 h.2.2.1.2, by simp only [if_pos p0, if_pos p1, if_pos p2, if_pos c0, if_pos c1, if_pos c2, if_pos c3, if_pos c4, if_neg c5, xbs]⟩
                · right; exact ⟨fun h => c4 h.2.2.1.1, by simp only [if_pos p0, if_pos p1, if_pos p2, if_pos c0, if_pos c1, if_pos c2, if_pos c3, if_neg c4, xbs]⟩
              · right; exact ⟨fun h => c3 h.2.1.2.2, by simp only [if_pos p0, if_pos p1, if_pos p2, if_pos c0, if_pos c1, if_pos c2, if_neg c3, xbs]⟩
            · right; exact ⟨fun h => c2 h.2.1.2.1, by simp only [if_pos p0, if_pos p1, if_pos p2, if_pos c0, if_pos c1, if_neg c2, xbs]⟩
          · right; exact ⟨fun h => c1 h.2.1.1.2, by simp only [if_pos p0, if_pos p1, if_pos p2, if_pos c0, if_neg c1, xbs]⟩
        · right; exact ⟨fun h => c0 h.2.1.1.1, by simp only [if_pos p0, if_pos p1, if_pos p2, if_neg c0, xbs]⟩
      · right; exact ⟨fun h => p2 h.1.2, by simp only [if_pos p0, if_pos p1, if_neg p2, xbs]⟩
    · right; exact ⟨fun h => p1 h.1.1.2, by simp only [if_pos p0, if_neg p1, xbs]⟩
  · right; exact ⟨fun h => p0 h.1.1.1, by simp only [if_neg p0, xbs]⟩
theorem x_sh46 (x : Int64) : (x >>> ((xi 46).toInt64 &&& 63)).toInt = x.toInt / 70368744177664 := by
  have hd : (((xi 46).toInt64 &&& 63).toBitVec.smod 64).toNat = 46 := by decide
  have e : (x >>> ((xi 46).toInt64 &&& 63)).toInt = x.toInt >>> 46 := by
    rw [← hd]
    exact BitVec.toInt_sshiftRight ..
  rw [e, Int.shiftRight_eq_div_pow]
  rfl
theorem xl_gt9 {x : Int} (h : 0 ≤ x ∧ x < 16) : 0 < xb_lcmp (Int64.ofInt x) (9 : Int64) ↔ 9 < x := by
  rw [lc_gt, show (9 : Int64) = Int64.ofInt 9 from rfl, xl_lt ⟨by omega, by omega⟩ ⟨by omega, by omega⟩]
theorem xl_gt4 {x : Int} (h : 0 ≤ x ∧ x < 8) : 0 < xb_lcmp (Int64.ofInt x) (4 : Int64) ↔ 4 < x := by
  rw [lc_gt, show (4 : Int64) = Int64.ofInt 4 from rfl, xl_lt ⟨by omega, by omega⟩ ⟨by omega, by omega⟩]
/-- the flag of one more field -/
def zand (a x m : Int) : Int := if a = 0 then 0 else if m < x then 0 else 1
theorem zand_1 {a x m : Int} (h : a = 0 ∨ a = 1) : (zand a x m = 0 ∨ zand a x m = 1) ∧ (zand a x m = 1 ↔ a = 1 ∧ x ≤ m) := by
  unfold zand
  rcases h with rfl | rfl
  · exact ⟨Or.inl rfl, by simp⟩
  · by_cases c : m < x
    · rw [if_neg (by decide), if_pos c]
      exact ⟨Or.inl rfl, by omega⟩
    · rw [if_neg (by decide), if_neg c]
      exact ⟨Or.inr rfl, by omega⟩
theorem s_33 {T : xS} {t B v P a : Int} (hB : 0 ≤ B ∧ B < 70368744177664) (hv : 0 ≤ v ∧ v < 3) (ha : a = 0 ∨ a = 1) (hP : (2 : Int) ^ (10 + 4 * v).toNat = P) (n : Nat) : m_X9_load_L33 t (Int64.ofInt B) T (n + 1) a v = m_X9_load_L33 t (Int64.ofInt B) T n (zand a (B / P % 16) 9) (v + 1) := by
  conv => lhs; unfold m_X9_load_L33
  rw [xl_fld (k := 10 + 4 * v) (j := 4) (m := 15) (P := P) (M := 16) hB ⟨by omega, by omega⟩ (by decide) rfl hP rfl]
  have e : (if 0 < xb_lcmp (Int64.ofInt (B / P % 16)) 9 then some (0 : Int) else some 1) = some (if 9 < B / P % 16 then 0 else 1) := by
    by_cases c : 9 < B / P % 16
    · rw [if_pos c, if_pos ((xl_gt9 ⟨by omega, by omega⟩).mpr c)]
    · rw [if_neg c, if_neg (fun h => c ((xl_gt9 ⟨by omega, by omega⟩).mp h))]
  rw [e]
  unfold zand
  rcases ha with rfl | rfl
  · simp (disch := omega) only [xr, xck_t, xck_T, if_pos, if_neg, if_true, if_false, xbs, or_true, true_or, and_true, true_and]
  · simp (disch := omega) only [xr, xck_t, xck_T, if_pos, if_neg, if_true, if_false, xbs, or_true, true_or, and_true, true_and]
theorem s_80 {T : xS} {t B v P a : Int} (hB : 0 ≤ B ∧ B < 70368744177664) (hv : 0 ≤ v ∧ v < 8) (ha : a = 0 ∨ a = 1) (hP : (2 : Int) ^ (22 + 3 * v).toNat = P) (n : Nat) : m_X9_load_L80 t (Int64.ofInt B) T (n + 1) a v = m_X9_load_L80 t (Int64.ofInt B) T n (zand a (B / P % 8) 4) (v + 1) := by
  conv => lhs; unfold m_X9_load_L80
  rw [xl_fld (k := 22 + 3 * v) (j := 3) (m := 7) (P := P) (M := 8) hB ⟨by omega, by omega⟩ (by decide) rfl hP rfl]
  have e : (if 0 < xb_lcmp (Int64.ofInt (B / P % 8)) 4 then some (0 : Int) else some 1) = some (if 4 < B / P % 8 then 0 else 1) := by
    by_cases c : 4 < B / P % 8
    · rw [if_pos c, if_pos ((xl_gt4 ⟨by omega, by omega⟩).mpr c)]
    · rw [if_neg c, if_neg (fun h => c ((xl_gt4 ⟨by omega, by omega⟩).mp h))]
  rw [e]
  unfold zand
  rcases ha with rfl | rfl
  · simp (disch := omega) only [xr, xck_t, xck_T, if_pos, if_neg, if_true, if_false, xbs, or_true, true_or, and_true, true_and]
  · simp (disch := omega) only [xr, xck_t, xck_T, if_pos, if_neg, if_true, if_false, xbs, or_true, true_or, and_true, true_and]
theorem s_33e {T : xS} {t v a : Int} {p : Int64} (hv : v = 3) (n : Nat) : m_X9_load_L33 t p T (n + 1) a v = some a := by
  unfold m_X9_load_L33
  simp (disch := omega) only [xr, xck_t, xck_T, if_pos, if_neg, if_true, if_false, xbs, or_true, true_or, and_true, true_and]
theorem s_80e {T : xS} {t v a : Int} {p : Int64} (hv : v = 8) (n : Nat) : m_X9_load_L80 t p T (n + 1) a v = some a := by
  unfold m_X9_load_L80
  simp (disch := omega) only [xr, xck_t, xck_T, if_pos, if_neg, if_true, if_false, xbs, or_true, true_or, and_true, true_and]
theorem p_flags {T : xS} {t B : Int} (hB : 0 ≤ B ∧ B < 70368744177664) : ∃ a b, m_X9_load_L33 t (Int64.ofInt B) T 2000 1 0 = some a ∧ m_X9_load_L80 t (Int64.ofInt B) T 2000 a 0 = some b ∧ (b = 0 ∨ b = 1) ∧ (b = 1 ↔ zlegal B) := by
  have z0 := zand_1 (a := 1) (x := B / 1024 % 16) (m := 9) (Or.inr rfl)
  have z1 := zand_1 (x := B / 16384 % 16) (m := 9) z0.1
  have z2 := zand_1 (x := B / 262144 % 16) (m := 9) z1.1
  have y0 := zand_1 (x := B / 4194304 % 8) (m := 4) z2.1
  have y1 := zand_1 (x := B / 33554432 % 8) (m := 4) y0.1
  have y2 := zand_1 (x := B / 268435456 % 8) (m := 4) y1.1
  have y3 := zand_1 (x := B / 2147483648 % 8) (m := 4) y2.1
  have y4 := zand_1 (x := B / 17179869184 % 8) (m := 4) y3.1
  have y5 := zand_1 (x := B / 137438953472 % 8) (m := 4) y4.1
  have y6 := zand_1 (x := B / 1099511627776 % 8) (m := 4) y5.1
  have y7 := zand_1 (x := B / 8796093022208 % 8) (m := 4) y6.1
  refine ⟨(zand (zand (zand 1 (B / 1024 % 16) 9) (B / 16384 % 16) 9) (B / 262144 % 16) 9), (zand (zand (zand (zand (zand (zand (zand (zand (zand (zand (zand 1 (B / 1024 % 16) 9) (B / 16384 % 16) 9) (B / 262144 % 16) 9) (B / 4194304 % 8) 4) (B / 33554432 % 8) 4) (B / 268435456 % 8) 4) (B / 2147483648 % 8) 4) (B / 17179869184 % 8) 4) (B / 137438953472 % 8) 4) (B / 1099511627776 % 8) 4) (B / 8796093022208 % 8) 4), ?_, ?_, y7.1, ?_⟩
  · rw [s_33 (P := 1024) hB (by decide) (Or.inr rfl) rfl 1999, s_33 (P := 16384) hB (by decide) z0.1 rfl 1998, s_33 (P := 262144) hB (by decide) z1.1 rfl 1997, s_33e (v := 0 + 1 + 1 + 1) (by decide) 1996]
  · rw [s_80 (P := 4194304) hB (by decide) z2.1 rfl 1999, s_80 (P := 33554432) hB (by decide) y0.1 rfl 1998, s_80 (P := 268435456) hB (by decide) y1.1 rfl 1997, s_80 (P := 2147483648) hB (by decide) y2.1 rfl 1996, s_80 (P := 17179869184) hB (by decide) y3.1 rfl 1995, s_80 (P := 137438953472) hB (by decide) y4.1 rfl 1994, s_80 (P := 1099511627776) hB (by decide) y5.1 rfl 1993, s_80 (P := 8796093022208) hB (by decide) y6.1 rfl 1992, s_80e (v := 0 + 1 + 1 + 1 + 1 + 1 + 1 + 1 + 1) (by decide) 1991]
  · unfold zlegal
    rw [y7.2, y6.2, y5.2, y4.2, y3.2, y2.2, y1.2, y0.2, z2.2, z1.2, z0.2]
    omega
theorem s_222 {t B v P : Int} {T : xS} (ht : 0 ≤ t ∧ t < 16) (hB : 0 ≤ B ∧ B < 70368744177664) (hv : 0 ≤ v ∧ v < 3) (hP : (2 : Int) ^ (10 + 4 * v).toNat = P) (n : Nat) : m_X9_load_L222 t (Int64.ofInt B) (n + 1) v T = m_X9_load_L222 t (Int64.ofInt B) n (v + 1) (xup T 3 (3 * t + v) (B / P % 16)) := by
  conv => lhs; unfold m_X9_load_L222
  rw [xl_fld (k := 10 + 4 * v) (j := 4) (m := 15) (P := P) (M := 16) hB ⟨by omega, by omega⟩ (by decide) rfl hP rfl, xl_i ⟨by omega, by omega⟩]
  simp (disch := omega) only [xr, xck_t, xck_T, if_pos, if_neg, if_true, if_false, xbs, or_true, true_or, and_true, true_and]
theorem s_262 {t B v P : Int} {T : xS} (ht : 0 ≤ t ∧ t < 16) (hB : 0 ≤ B ∧ B < 70368744177664) (hv : 0 ≤ v ∧ v < 8) (hP : (2 : Int) ^ (22 + 3 * v).toNat = P) (n : Nat) : m_X9_load_L262 t (Int64.ofInt B) (n + 1) v T = m_X9_load_L262 t (Int64.ofInt B) n (v + 1) (xup T 4 (8 * t + v) (B / P % 8)) := by
  conv => lhs; unfold m_X9_load_L262
  rw [xl_fld (k := 22 + 3 * v) (j := 3) (m := 7) (P := P) (M := 8) hB ⟨by omega, by omega⟩ (by decide) rfl hP rfl, xl_i ⟨by omega, by omega⟩]
  simp (disch := omega) only [xr, xck_t, xck_T, if_pos, if_neg, if_true, if_false, xbs, or_true, true_or, and_true, true_and]
theorem s_222e {t v : Int} {p : Int64} {T : xS} (hv : v = 3) (n : Nat) : m_X9_load_L222 t p (n + 1) v T = some T := by
  unfold m_X9_load_L222
  simp (disch := omega) only [xr, xck_t, xck_T, if_pos, if_neg, if_true, if_false, xbs, or_true, true_or, and_true, true_and]
theorem s_262e {t v : Int} {p : Int64} {T : xS} (hv : v = 8) (n : Nat) : m_X9_load_L262 t p (n + 1) v T = some T := by
  unfold m_X9_load_L262
  simp (disch := omega) only [xr, xck_t, xck_T, if_pos, if_neg, if_true, if_false, xbs, or_true, true_or, and_true, true_and]
/-- the model's cells with the fields of B on tile t -/
def zput (T : xS) (t B : Int) : xS := xup (xup (xup (xup (xup (xup (xup (xup (xup (xup (xup T 3 (3 * t + 0) (B / 1024 % 16)) 3 (3 * t + 1) (B / 16384 % 16)) 3 (3 * t + 2) (B / 262144 % 16)) 4 (8 * t + 0) (B / 4194304 % 8)) 4 (8 * t + 1) (B / 33554432 % 8)) 4 (8 * t + 2) (B / 268435456 % 8)) 4 (8 * t + 3) (B / 2147483648 % 8)) 4 (8 * t + 4) (B / 17179869184 % 8)) 4 (8 * t + 5) (B / 137438953472 % 8)) 4 (8 * t + 6) (B / 1099511627776 % 8)) 4 (8 * t + 7) (B / 8796093022208 % 8)
theorem p_put {t B : Int} {T : xS} (ht : 0 ≤ t ∧ t < 16) (hB : 0 ≤ B ∧ B < 70368744177664) : (m_X9_load_L222 t (Int64.ofInt B) 2000 0 T).bind (fun r35 => (m_X9_load_L262 t (Int64.ofInt B) 2000 0 r35).bind (fun r39 => some ((1 : Int), r39))) = some (1, zput T t B) := by
  rw [s_222 (P := 1024) ht hB (by decide) rfl 1999, s_222 (P := 16384) ht hB (by decide) rfl 1998, s_222 (P := 262144) ht hB (by decide) rfl 1997, s_222e (v := 0 + 1 + 1 + 1) (by decide) 1996, xbs]
  rw [s_262 (P := 4194304) ht hB (by decide) rfl 1999, s_262 (P := 33554432) ht hB (by decide) rfl 1998, s_262 (P := 268435456) ht hB (by decide) rfl 1997, s_262 (P := 2147483648) ht hB (by decide) rfl 1996, s_262 (P := 17179869184) ht hB (by decide) rfl 1995, s_262 (P := 137438953472) ht hB (by decide) rfl 1994, s_262 (P := 1099511627776) ht hB (by decide) rfl 1993, s_262 (P := 8796093022208) ht hB (by decide) rfl 1992, s_262e (v := 0 + 1 + 1 + 1 + 1 + 1 + 1 + 1 + 1) (by decide) 1991, xbs]
  rfl
theorem zput_q {T : xS} {t B : Int} {q : Nat} (h3 : q ≠ 3) (h4 : q ≠ 4) : zput T t B q = T q := by
  unfold zput
  simp only [xup_q _ _ _ h3, xup_q _ _ _ h4]
theorem zput_3 {T : xS} {t B : Int} : zput T t B 3 (3 * t + 0) = B / 1024 % 16 ∧ zput T t B 3 (3 * t + 1) = B / 16384 % 16 ∧ zput T t B 3 (3 * t + 2) = B / 262144 % 16 ∧ ∀ p, p / 3 ≠ t → zput T t B 3 p = T 3 p := by
  unfold zput
  refine ⟨?_, ?_, ?_, fun p hp => ?_⟩
  · simp (disch := omega) only [xr, xck_t, xck_T, if_pos, if_neg, if_true, if_false, xbs, or_true, true_or, and_true, true_and, xup_q, xup_s, xup_i]
  · simp (disch := omega) only [xr, xck_t, xck_T, if_pos, if_neg, if_true, if_false, xbs, or_true, true_or, and_true, true_and, xup_q, xup_s, xup_i]
  · simp (disch := omega) only [xr, xck_t, xck_T, if_pos, if_neg, if_true, if_false, xbs, or_true, true_or, and_true, true_and, xup_q, xup_s, xup_i]
  · simp (disch := omega) only [xr, xck_t, xck_T, if_pos, if_neg, if_true, if_false, xbs, or_true, true_or, and_true, true_and, xup_q, xup_i]
theorem zput_4 {T : xS} {t B : Int} : zput T t B 4 (8 * t + 0) = B / 4194304 % 8 ∧ zput T t B 4 (8 * t + 1) = B / 33554432 % 8 ∧ zput T t B 4 (8 * t + 2) = B / 268435456 % 8 ∧ zput T t B 4 (8 * t + 3) = B / 2147483648 % 8 ∧ zput T t B 4 (8 * t + 4) = B / 17179869184 % 8 ∧ zput T t B 4 (8 * t + 5) = B / 137438953472 % 8 ∧ zput T t B 4 (8 * t + 6) = B / 1099511627776 % 8 ∧ zput T t B 4 (8 * t + 7) = B / 8796093022208 % 8 ∧ ∀ p, p / 8 ≠ t → zput T t B 4 p = T 4 p := by
  unfold zput
  refine ⟨?_, ?_, ?_, ?_, ?_, ?_, ?_, ?_, fun p hp => ?_⟩
  · simp (disch := omega) only [xr, xck_t, xck_T, if_pos, if_neg, if_true, if_false, xbs, or_true, true_or, and_true, true_and, xup_q, xup_s, xup_i]
  · simp (disch := omega) only [xr, xck_t, xck_T, if_pos, if_neg, if_true, if_false, xbs, or_true, true_or, and_true, true_and, xup_q, xup_s, xup_i]
  · simp (disch := omega) only [xr, xck_t, xck_T, if_pos, if_neg, if_true, if_false, xbs, or_true, true_or, and_true, true_and, xup_q, xup_s, xup_i]
  · simp (disch := omega) only [xr, xck_t, xck_T, if_pos, if_neg, if_true, if_false, xbs, or_true, true_or, and_true, true_and, xup_q, xup_s, xup_i]
  · simp (disch := omega) only [xr, xck_t, xck_T, if_pos, if_neg, if_true, if_false, xbs, or_true, true_or, and_true, true_and, xup_q, xup_s, xup_i]
  · simp (disch := omega) only [xr, xck_t, xck_T, if_pos, if_neg, if_true, if_false, xbs, or_true, true_or, and_true, true_and, xup_q, xup_s, xup_i]
  · simp (disch := omega) only [xr, xck_t, xck_T, if_pos, if_neg, if_true, if_false, xbs, or_true, true_or, and_true, true_and, xup_q, xup_s, xup_i]
  · simp (disch := omega) only [xr, xck_t, xck_T, if_pos, if_neg, if_true, if_false, xbs, or_true, true_or, and_true, true_and, xup_q, xup_s, xup_i]
  · simp (disch := omega) only [xr, xck_t, xck_T, if_pos, if_neg, if_true, if_false, xbs, or_true, true_or, and_true, true_and, xup_q, xup_i]
