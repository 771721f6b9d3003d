/-! bits, checkSum: from the fields -/
/-- the tiles: the class's bits are the model's fields; what the outlets give -/
def zTile (S T : xS) : Prop := zRng T ∧ (∀ t, 0 ≤ t → t < 16 → S 26 t = zenc T t ∧ S 27 t = T 5 t ∧ (T 5 t = 0 ∨ T 5 t = 1))
theorem xl_shl {x k P : Int} (hx : 0 ≤ x ∧ x < 2147483648) (hk : 0 ≤ k ∧ k < 64) (hP : (2 : Int) ^ k.toNat = P) : (xi x).toInt64 <<< ((xi k).toInt64 &&& 63) = Int64.ofInt (x * P) := by
  rw [xi_pos hx.1, nI_l (by omega), xi_pos hk.1, wb_shl _ (by omega)]
  have e : x * P = ((x.toNat * 2 ^ k.toNat : Nat) : Int) := by
    rw [Int.natCast_mul, Int.toNat_of_nonneg hx.1, ← hP]
    congr 1
  rw [e, xl_nat]
theorem xl_add (a b : Int) : Int64.ofInt a + Int64.ofInt b = Int64.ofInt (a + b) := (Int64.ofInt_add a b).symm
theorem xl_of32 {x : Int} (hx : 0 ≤ x ∧ x < 2147483648) : (xi x).toInt64 = Int64.ofInt x := by
  rw [xi_pos hx.1, nI_l (by omega), xl_pos hx.1]
theorem s_61 {T : xS} {t a v P : Int} (ht : 0 ≤ t ∧ t < 16) (hr : zRng T) (hv : 0 ≤ v ∧ v < 3) (hP : (2 : Int) ^ (10 + 4 * v).toNat = P) (n : Nat) : m_X9_bits_L61 t T (n + 1) (Int64.ofInt a) v = m_X9_bits_L61 t T n (Int64.ofInt (a + T 3 (3 * t + v) * P)) (v + 1) := by
  have h3 := hr.2.1 (3 * t + v) (by omega) (by omega)
  conv => lhs; unfold m_X9_bits_L61
  rw [xl_shl ⟨by omega, by omega⟩ ⟨by omega, by omega⟩ hP, xl_add]
  simp (disch := omega) only [xr, xck_t, xck_T, if_pos, if_neg, if_true, if_false, xbs, or_true, true_or, and_true, true_and]
theorem s_99 {T : xS} {t a v P : Int} (ht : 0 ≤ t ∧ t < 16) (hr : zRng T) (hv : 0 ≤ v ∧ v < 8) (hP : (2 : Int) ^ (22 + 3 * v).toNat = P) (n : Nat) : m_X9_bits_L99 t T (n + 1) (Int64.ofInt a) v = m_X9_bits_L99 t T n (Int64.ofInt (a + T 4 (8 * t + v) * P)) (v + 1) := by
  have h3 := hr.2.2 (8 * t + v) (by omega) (by omega)
  conv => lhs; unfold m_X9_bits_L99
  rw [xl_shl ⟨by omega, by omega⟩ ⟨by omega, by omega⟩ hP, xl_add]
  simp (disch := omega) only [xr, xck_t, xck_T, if_pos, if_neg, if_true, if_false, xbs, or_true, true_or, and_true, true_and]
theorem s_61e {T : xS} {t v : Int} {a : Int64} (hv : v = 3) (n : Nat) : m_X9_bits_L61 t T (n + 1) a v = some a := by
  unfold m_X9_bits_L61
  simp (disch := omega) only [xr, xck_t, xck_T, if_pos, if_neg, if_true, if_false, xbs, or_true, true_or, and_true, true_and]
theorem s_99e {T : xS} {t v : Int} {a : Int64} (hv : v = 8) (n : Nat) : m_X9_bits_L99 t T (n + 1) a v = some a := by
  unfold m_X9_bits_L99
  simp (disch := omega) only [xr, xck_t, xck_T, if_pos, if_neg, if_true, if_false, xbs, or_true, true_or, and_true, true_and]
theorem p_bits9 {T : xS} {t : Int} (hr : zRng T) (ht : 0 ≤ t ∧ t < 16) : m_X9_bits t T = some (Int64.ofInt (zenc T t)) := by
  have h1 := hr.1 t ht.1 ht.2
  unfold m_X9_bits
  rw [p_in ⟨by omega, by omega⟩ ⟨by omega, by omega⟩ ⟨by omega, by omega⟩]
  have e1 : (if T 1 t = 0 then some (0 : Int64) else some 256) = some (Int64.ofInt (256 * T 1 t)) := by
    rcases (show T 1 t = 0 ∨ T 1 t = 1 by omega) with e | e
    · rw [e]; rfl
    · rw [e]; rfl
  have e2 : (if T 2 t = 0 then some (0 : Int64) else some 512) = some (Int64.ofInt (512 * T 2 t)) := by
    rcases (show T 2 t = 0 ∨ T 2 t = 1 by omega) with e | e
    · rw [e]; rfl
    · rw [e]; rfl
  rw [e1, e2, xl_of32 ⟨by omega, by omega⟩]
  simp (disch := omega) only [xr, xck_t, xck_T, if_pos, if_neg, if_true, if_false, xbs, or_true, true_or, and_true, true_and, xl_add]
  rw [s_61 (P := 1024) ht hr (by decide) rfl 1999, s_61 (P := 16384) ht hr (by decide) rfl 1998, s_61 (P := 262144) ht hr (by decide) rfl 1997, s_61e (v := 0 + 1 + 1 + 1) (by decide) 1996, xbs]
  rw [s_99 (P := 4194304) ht hr (by decide) rfl 1999, s_99 (P := 33554432) ht hr (by decide) rfl 1998, s_99 (P := 268435456) ht hr (by decide) rfl 1997, s_99 (P := 2147483648) ht hr (by decide) rfl 1996, s_99 (P := 17179869184) ht hr (by decide) rfl 1995, s_99 (P := 137438953472) ht hr (by decide) rfl 1994, s_99 (P := 1099511627776) ht hr (by decide) rfl 1993, s_99 (P := 8796093022208) ht hr (by decide) rfl 1992, s_99e (v := 0 + 1 + 1 + 1 + 1 + 1 + 1 + 1 + 1) (by decide) 1991, xbs]
  congr 2
  unfold zenc
  show _ = _
  have f : ∀ a b : Int, a = b → T 3 a = T 3 b := fun a b h => by rw [h]
  simp only [Int.zero_add, Int.reduceAdd]
  omega
theorem p_sumL {S T : xS} {t q : Int} {B : Int64} (hB : B = Int64.ofInt (S 26 t)) (ht : 0 ≤ t ∧ t < 16) : ∀ (d n m : Nat) (a v : Int), v + d = 48 → 0 ≤ v → d < n → d < m → ∃ r, m_X5_sumUp_L13 t S n a v = some r ∧ m_X9_checkSum_L20 q B T m a v = some r := by
  intro d
  induction d with
  | zero =>
    intro n m a v h1 h0 h2 h3
    obtain ⟨n, rfl⟩ : ∃ k, n = k + 1 := ⟨n - 1, by omega⟩
    obtain ⟨m, rfl⟩ : ∃ k, m = k + 1 := ⟨m - 1, by omega⟩
    refine ⟨a, ?_, ?_⟩
    · unfold m_X5_sumUp_L13
      simp (disch := omega) only [xr, xck_t, xck_T, if_pos, if_neg, if_true, if_false, xbs, or_true, true_or, and_true, true_and]
    · unfold m_X9_checkSum_L20
      simp (disch := omega) only [xr, xck_t, xck_T, if_pos, if_neg, if_true, if_false, xbs, or_true, true_or, and_true, true_and]
  | succ d ih =>
    intro n m a v h1 h0 h2 h3
    obtain ⟨n, rfl⟩ : ∃ k, n = k + 1 := ⟨n - 1, by omega⟩
    obtain ⟨m, rfl⟩ : ∃ k, m = k + 1 := ⟨m - 1, by omega⟩
    obtain ⟨r, i1, i2⟩ := ih n m (if xb_ixor (xb_iand (xb_ishr a 15) 1) ((B >>> ((xi v).toInt64 &&& 63) &&& 1).toInt32.toInt) = 1 then xb_ixor (xb_iand (xb_ishl a 1) 65535) 4129 else xb_iand (xb_ishl a 1) 65535) (v + 1) (by omega) (by omega) (by omega) (by omega)
    have hx := xr_ixor (xb_iand (xb_ishr a 15) 1) ((B >>> ((xi v).toInt64 &&& 63) &&& 1).toInt32.toInt)
    refine ⟨r, ?_, ?_⟩
    · unfold m_X5_sumUp_L13
      rw [← hB]
      simp (disch := omega) only [xr, xck_t, xck_T, if_pos, if_neg, if_true, if_false, xbs, or_true, true_or, and_true, true_and]
      by_cases c : xb_ixor (xb_iand (xb_ishr a 15) 1) ((B >>> ((xi v).toInt64 &&& 63) &&& 1).toInt32.toInt) = 1
      · rw [if_pos c] at i1 ⊢
        exact i1
      · rw [if_neg c] at i1 ⊢
        exact i1
    · unfold m_X9_checkSum_L20
      simp (disch := omega) only [xr, xck_t, xck_T, if_pos, if_neg, if_true, if_false, xbs, or_true, true_or, and_true, true_and]
      by_cases c : xb_ixor (xb_iand (xb_ishr a 15) 1) ((B >>> ((xi v).toInt64 &&& 63) &&& 1).toInt32.toInt) = 1
      · rw [if_pos c] at i2 ⊢
        exact i2
      · rw [if_neg c] at i2 ⊢
        exact i2
theorem p_checkL {S T : xS} (h : zTile S T) : ∀ (d n m : Nat) (a v : Int), v + d = 16 → 0 ≤ v → d < n → d < m → ∃ r, m_X5_sumUp_L5 S n a v = some r ∧ m_X9_checkSum_L5 T m a v = some r := by
  intro d
  induction d with
  | zero =>
    intro n m a v h1 h0 h2 h3
    obtain ⟨n, rfl⟩ : ∃ k, n = k + 1 := ⟨n - 1, by omega⟩
    obtain ⟨m, rfl⟩ : ∃ k, m = k + 1 := ⟨m - 1, by omega⟩
    refine ⟨a, ?_, ?_⟩
    · unfold m_X5_sumUp_L5
      simp (disch := omega) only [xr, xck_t, xck_T, if_pos, if_neg, if_true, if_false, xbs, or_true, true_or, and_true, true_and]
    · unfold m_X9_checkSum_L5
      simp (disch := omega) only [xr, xck_t, xck_T, if_pos, if_neg, if_true, if_false, xbs, or_true, true_or, and_true, true_and]
  | succ d ih =>
    intro n m a v h1 h0 h2 h3
    obtain ⟨n, rfl⟩ : ∃ k, n = k + 1 := ⟨n - 1, by omega⟩
    obtain ⟨m, rfl⟩ : ∃ k, m = k + 1 := ⟨m - 1, by omega⟩
    have hv : 0 ≤ v ∧ v < 16 := by omega
    obtain ⟨r1, e1, e2⟩ := p_sumL (S := S) (T := T) (t := v) (q := v) (B := Int64.ofInt (zenc T v)) (by rw [(h.2 v hv.1 hv.2).1]) hv 48 2000 2000 a 0 (by omega) (by omega) (by omega) (by omega)
    obtain ⟨r, i1, i2⟩ := ih n m r1 (v + 1) (by omega) (by omega) (by omega) (by omega)
    refine ⟨r, ?_, ?_⟩
    · unfold m_X5_sumUp_L5
      rw [e1]
      simp (disch := omega) only [xr, xck_t, xck_T, if_pos, if_neg, if_true, if_false, xbs, or_true, true_or, and_true, true_and]
      exact i1
    · unfold m_X9_checkSum_L5
      rw [p_bits9 h.1 hv, xbs, e2]
      simp (disch := omega) only [xr, xck_t, xck_T, if_pos, if_neg, if_true, if_false, xbs, or_true, true_or, and_true, true_and]
      exact i2
theorem p_checkSum {S T : xS} (h : zTile S T) : ∃ r, m_X8_checkSum S = some r ∧ m_X9_checkSum T = some r := by
  obtain ⟨r, e1, e2⟩ := p_checkL h 16 2000 2000 65535 0 (by omega) (by omega) (by omega) (by omega)
  refine ⟨r, ?_, ?_⟩
  · unfold m_X8_checkSum m_X5_sumUp
    rw [e1]
    rfl
  · unfold m_X9_checkSum
    rw [e2]
    rfl
theorem p_bits {S T : xS} {t : Int} (h : zTile S T) (ht : xr t) : ∃ r, m_X8_bits t S = some r ∧ m_X9_bits t T = some r := by
  by_cases a : 0 ≤ t ∧ t < 16
  · refine ⟨Int64.ofInt (zenc T t), ?_, p_bits9 h.1 a⟩
    unfold m_X8_bits
    rw [p_bitsOf a, (h.2 t a.1 a.2).1]
    rfl
  · refine ⟨0, ?_, ?_⟩
    · unfold m_X8_bits m_X5_bitsOf
      by_cases b : t < 0
      · simp (disch := omega) only [xr, xck_t, xck_T, if_pos, if_neg, if_true, if_false, xbs, or_true, true_or, and_true, true_and]
      · simp (disch := omega) only [xr, xck_t, xck_T, if_pos, if_neg, if_true, if_false, xbs, or_true, true_or, and_true, true_and]
    · unfold m_X9_bits
      rw [p_in ht ⟨by omega, by omega⟩ ⟨by omega, by omega⟩]
      simp (disch := omega) only [xr, xck_t, xck_T, if_pos, if_neg, if_true, if_false, xbs, or_true, true_or, and_true, true_and]
