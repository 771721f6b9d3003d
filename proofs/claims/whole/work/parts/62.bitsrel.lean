/-! the bits of a tile as a number: fields out of it -/
theorem xl_nat (n : Nat) : Int64.ofInt (n : Int) = lN n := by
  unfold lN
  apply Int64.toBitVec_inj.mp
  simp
theorem xl_pos {x : Int} (h : 0 ≤ x) : Int64.ofInt x = lN x.toNat := by
  have e : x = ((x.toNat : Nat) : Int) := by omega
  calc Int64.ofInt x = Int64.ofInt ((x.toNat : Nat) : Int) := by rw [← e]
    _ = lN x.toNat := xl_nat _
theorem xl_shr {B k : Int} (hB : 0 ≤ B ∧ B < 4611686018427387904) (hk : 0 ≤ k ∧ k < 64) : Int64.ofInt B >>> ((xi k).toInt64 &&& 63) = Int64.ofInt (B / 2 ^ k.toNat) := by
  have e : B / 2 ^ k.toNat = ((B.toNat / 2 ^ k.toNat : Nat) : Int) := by
    rw [Int.natCast_ediv, Int.toNat_of_nonneg hB.1]
    congr 1
  have hd : 0 ≤ B / 2 ^ k.toNat := by
    rw [e]
    exact Int.ofNat_nonneg _
  rw [xl_pos hB.1, xl_pos hd, xi_pos hk.1, wb_c _ (by omega), pf_shr (d := k.toNat) (by rw [wb_tb, wb_sm _ (by omega), BitVec.toNat_ofNat]; omega) (by omega)]
  congr 1
  rw [e]
  omega
theorem xl_mask {B : Int} {j : Nat} {m : Int64} (hB : 0 ≤ B ∧ B < 4611686018427387904) (hj : j < 64) (hm : m = lN (2 ^ j - 1)) : Int64.ofInt B &&& m = Int64.ofInt (B % 2 ^ j) := by
  have e : B % 2 ^ j = ((B.toNat % 2 ^ j : Nat) : Int) := by
    rw [Int.natCast_emod, Int.toNat_of_nonneg hB.1]
    congr 1
  have hd : 0 ≤ B % 2 ^ j := by
    rw [e]
    exact Int.ofNat_nonneg _
  rw [hm, xl_pos hB.1, xl_pos hd, wb_mask (by omega) hj]
  congr 1
  rw [e]
  omega
theorem xl_i {B : Int} (hB : 0 ≤ B ∧ B ≤ 2147483647) : (Int64.ofInt B).toInt32.toInt = B := by
  rw [xl_pos hB.1, lN_i, nI_toInt (by omega)]
  omega
theorem xl_eq1 {B : Int} (hB : 0 ≤ B ∧ B < 2) : (xb_lcmp (Int64.ofInt B) (1 : Int64) = 0) ↔ B = 1 := by
  rcases (show B = 0 ∨ B = 1 by omega) with rfl | rfl
  · decide
  · decide
theorem xl_ofTo (b : Int64) : Int64.ofInt b.toInt = b := Int64.ofInt_toInt b
theorem xl_toInt {B : Int} (hB : 0 ≤ B ∧ B < 4611686018427387904) : (Int64.ofInt B).toInt = B := by
  rw [xl_pos hB.1, pk_lT (by omega)]
  omega
theorem x_div2 (B : Int) {n m : Nat} {P : Int} (h : (2 : Int) ^ n = P) : B / 2 ^ n % 2 ^ m = B / P % 2 ^ m := by rw [h]
/-- one field of the bits -/
theorem xl_fld {B k : Int} {j : Nat} {m : Int64} {P M : Int} (hB : 0 ≤ B ∧ B < 70368744177664) (hk : 0 ≤ k ∧ k < 46) (hj : j < 30) (hm : m = lN (2 ^ j - 1)) (hP : (2 : Int) ^ k.toNat = P) (hM : (2 : Int) ^ j = M) : (Int64.ofInt B >>> ((xi k).toInt64 &&& 63)) &&& m = Int64.ofInt (B / P % M) := by
  have h0 : 0 ≤ B / P := by
    rw [← hP]
    exact Int.ediv_nonneg hB.1 (Int.le_of_lt (Int.pow_pos (by decide)))
  have h1 : B / P ≤ B := by
    rw [← hP]
    exact Int.ediv_le_self _ hB.1
  rw [xl_shr ⟨hB.1, by omega⟩ ⟨hk.1, by omega⟩, hP, xl_mask ⟨h0, by omega⟩ (by omega) hm, hM]
theorem p_bitsOf {S : xS} {t : Int} (ht : 0 ≤ t ∧ t < 16) : m_X5_bitsOf t S = some (Int64.ofInt (S 26 t)) := by
  unfold m_X5_bitsOf
  simp (disch := omega) only [xr, xck_t, xck_T, if_pos, if_neg, if_true, if_false, xbs, or_true, true_or, and_true, true_and]
theorem p_hasReg {S : xS} {t : Int} (ht : 0 ≤ t ∧ t < 16) (hB : 0 ≤ S 26 t ∧ S 26 t < 70368744177664) : m_X5_hasRegister t S = some (S 26 t / 256 % 2) := by
  unfold m_X5_hasRegister
  rw [p_bitsOf ht, xbs, xl_fld (k := 8) (j := 1) (m := 1) (P := 256) (M := 2) hB (by decide) (by decide) rfl rfl rfl]
  rcases (show S 26 t / 256 % 2 = 0 ∨ S 26 t / 256 % 2 = 1 by omega) with e | e
  · rw [e, if_neg (by decide)]
  · rw [e, if_pos (by decide)]
theorem x_and32 {B : Int} (j : Nat) {m : Int} (hB : 0 ≤ B) (hj : j < 31) (hm : m = ((2 ^ j - 1 : Nat) : Int)) : xb_iand ((Int64.ofInt B).toInt32.toInt) m = B % 2 ^ j := by
  have e : B % 2 ^ j = ((B.toNat % 2 ^ j : Nat) : Int) := by
    rw [Int.natCast_emod, Int.toNat_of_nonneg hB]
    congr 1
  have hp : 2 ^ j ≤ 2 ^ 30 := Nat.pow_le_pow_right (by decide) (by omega)
  have hp0 : 0 < 2 ^ j := Nat.pow_pos (by decide)
  have hmb : (xi m).toBitVec.toNat = 2 ^ j - 1 := by
    rw [hm, xi_nat]
    show (BitVec.ofNat 32 _).toNat = _
    rw [BitVec.toNat_ofNat]
    exact Nat.mod_eq_of_lt (by omega)
  unfold xb_iand
  rw [xi_of, xl_pos hB, lN_i, pk_and _ j hmb]
  have h2 : (nI B.toNat).toBitVec.toNat % 2 ^ j = B.toNat % 2 ^ j := by
    show (BitVec.ofNat 32 _).toNat % _ = _
    rw [BitVec.toNat_ofNat]
    exact Nat.mod_mod_of_dvd _ (Nat.pow_dvd_pow 2 (by omega))
  have h3 : B.toNat % 2 ^ j < 2 ^ j := Nat.mod_lt _ hp0
  rw [h2, nI_toInt (by omega), e]
theorem p_pinS {B : Int} (hB : 0 ≤ B ∧ B < 70368744177664) {p P : Int} (hp : 0 ≤ p ∧ p < 3) (hP : (2 : Int) ^ (10 + p * 4).toNat = P) : m_X5_pinSetting (Int64.ofInt B) p = some (B / P % 16) := by
  unfold m_X5_pinSetting
  have h0 : 0 ≤ B / P := by
    rw [← hP]
    exact Int.ediv_nonneg hB.1 (Int.le_of_lt (Int.pow_pos (by decide)))
  rw [xl_shr ⟨hB.1, by omega⟩ ⟨by omega, by omega⟩, hP, x_and32 4 h0 (by decide) (by decide)]
  rfl
theorem p_chS {B : Int} (hB : 0 ≤ B ∧ B < 70368744177664) {p P : Int} (hp : 0 ≤ p ∧ p < 8) (hP : (2 : Int) ^ (22 + p * 3).toNat = P) : m_X5_channelSetting (Int64.ofInt B) p = some (B / P % 8) := by
  unfold m_X5_channelSetting
  have h0 : 0 ≤ B / P := by
    rw [← hP]
    exact Int.ediv_nonneg hB.1 (Int.le_of_lt (Int.pow_pos (by decide)))
  rw [xl_shr ⟨hB.1, by omega⟩ ⟨by omega, by omega⟩, hP, x_and32 3 h0 (by decide) (by decide)]
  rfl
/-- the bits of a tile out of the model's fields -/
def zenc (T : xS) (t : Int) : Int := T 0 t + 256 * T 1 t + 512 * T 2 t + 1024 * T 3 (3 * t + 0) + 16384 * T 3 (3 * t + 1) + 262144 * T 3 (3 * t + 2) + 4194304 * T 4 (8 * t + 0) + 33554432 * T 4 (8 * t + 1) + 268435456 * T 4 (8 * t + 2) + 2147483648 * T 4 (8 * t + 3) + 17179869184 * T 4 (8 * t + 4) + 137438953472 * T 4 (8 * t + 5) + 1099511627776 * T 4 (8 * t + 6) + 8796093022208 * T 4 (8 * t + 7)
/-- the ranges of the model's fields -/
def zRng (T : xS) : Prop := (∀ t, 0 ≤ t → t < 16 → (0 ≤ T 0 t ∧ T 0 t ≤ 255) ∧ (0 ≤ T 1 t ∧ T 1 t ≤ 1) ∧ (0 ≤ T 2 t ∧ T 2 t ≤ 1)) ∧ (∀ p, 0 ≤ p → p < 48 → 0 ≤ T 3 p ∧ T 3 p ≤ 9) ∧ (∀ c, 0 ≤ c → c < 128 → 0 ≤ T 4 c ∧ T 4 c ≤ 4)
theorem zenc_all {T : xS} {t : Int} (h : zRng T) (ht : 0 ≤ t ∧ t < 16) : (0 ≤ zenc T t ∧ zenc T t < 70368744177664) ∧ zenc T t % 256 = T 0 t ∧ zenc T t / 256 % 2 = T 1 t ∧ zenc T t / 512 % 2 = T 2 t ∧ zenc T t / 1024 % 16 = T 3 (3 * t + 0) ∧ zenc T t / 16384 % 16 = T 3 (3 * t + 1) ∧ zenc T t / 262144 % 16 = T 3 (3 * t + 2) ∧ zenc T t / 4194304 % 8 = T 4 (8 * t + 0) ∧ zenc T t / 33554432 % 8 = T 4 (8 * t + 1) ∧ zenc T t / 268435456 % 8 = T 4 (8 * t + 2) ∧ zenc T t / 2147483648 % 8 = T 4 (8 * t + 3) ∧ zenc T t / 17179869184 % 8 = T 4 (8 * t + 4) ∧ zenc T t / 137438953472 % 8 = T 4 (8 * t + 5) ∧ zenc T t / 1099511627776 % 8 = T 4 (8 * t + 6) ∧ zenc T t / 8796093022208 % 8 = T 4 (8 * t + 7) := by
  obtain ⟨h1, h3, h4⟩ := h
  have a := h1 t ht.1 ht.2
  have p0 := h3 (3 * t + 0) (by omega) (by omega)
  have p1 := h3 (3 * t + 1) (by omega) (by omega)
  have p2 := h3 (3 * t + 2) (by omega) (by omega)
  have c0 := h4 (8 * t + 0) (by omega) (by omega)
  have c1 := h4 (8 * t + 1) (by omega) (by omega)
  have c2 := h4 (8 * t + 2) (by omega) (by omega)
  have c3 := h4 (8 * t + 3) (by omega) (by omega)
  have c4 := h4 (8 * t + 4) (by omega) (by omega)
  have c5 := h4 (8 * t + 5) (by omega) (by omega)
  have c6 := h4 (8 * t + 6) (by omega) (by omega)
  have c7 := h4 (8 * t + 7) (by omega) (by omega)
  unfold zenc
  generalize T 0 t = x0 at *
  generalize T 1 t = x1 at *
  generalize T 2 t = x2 at *
  generalize T 3 (3 * t + 0) = y0 at *
  generalize T 3 (3 * t + 1) = y1 at *
  generalize T 3 (3 * t + 2) = y2 at *
  generalize T 4 (8 * t + 0) = z0 at *
  generalize T 4 (8 * t + 1) = z1 at *
  generalize T 4 (8 * t + 2) = z2 at *
  generalize T 4 (8 * t + 3) = z3 at *
  generalize T 4 (8 * t + 4) = z4 at *
  generalize T 4 (8 * t + 5) = z5 at *
  generalize T 4 (8 * t + 6) = z6 at *
  generalize T 4 (8 * t + 7) = z7 at *
  clear h1 h3 h4
  refine ⟨⟨by omega, by omega⟩, by omega, by omega, by omega, by omega, by omega, by omega, by omega, by omega, by omega, by omega, by omega, by omega, by omega, by omega⟩
