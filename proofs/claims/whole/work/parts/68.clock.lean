/-! reset, clock -/
theorem b_s32 : ∀ n, n < 32 → ((nI n &&& 31).toBitVec.smod 32).toNat = n := by decide +kernel
theorem xb_shr {a k : Int} (ha : 0 ≤ a ∧ a < 2147483648) (hk : 0 ≤ k ∧ k < 32) : xb_ishr a k = a / 2 ^ k.toNat := by
  have e : a / 2 ^ k.toNat = ((a.toNat / 2 ^ k.toNat : Nat) : Int) := by
    rw [Int.natCast_ediv, Int.toNat_of_nonneg ha.1]
    congr 1
  have hl : a.toNat / 2 ^ k.toNat ≤ a.toNat := Nat.div_le_self _ _
  unfold xb_ishr
  rw [xi_pos ha.1, xi_pos hk.1, pk_shrN (by omega) _ k.toNat (b_s32 _ (by omega)), nI_toInt (by omega), e]
theorem xb_and1 (a : Int) : xb_iand a 1 = 0 ∨ xb_iand a 1 = 1 := by
  obtain ⟨j, hj, e⟩ := pk_andE (xi a) (m := xi 1) 1 (by decide)
  unfold xb_iand
  rw [e, nI_toInt (by omega)]
  omega
theorem xb_and1n {a : Int} (ha : 0 ≤ a ∧ a < 2147483648) : xb_iand a 1 = a % 2 := by
  unfold xb_iand
  rw [xi_pos ha.1, pk_andN (m := xi 1) (by omega) 1 (by decide), nI_toInt (by omega)]
  omega
theorem xb_shl1 : ∀ k, k < 16 → ∀ v, v < 2 → xb_ishl (v : Nat) (k : Nat) = ((v * 2 ^ k : Nat) : Int) := by decide +kernel
theorem xb_or1 : ∀ k, k < 4 → ∀ a, a < 2 ^ k → ∀ v, v < 2 → xb_ior (a : Nat) (xb_ishl (v : Nat) (k : Nat)) = ((a + v * 2 ^ k : Nat) : Int) := by decide +kernel
theorem x_shl {v k : Int} (hv : v = 0 ∨ v = 1) (hk : 0 ≤ k ∧ k < 16) : xb_ishl v k = v * 2 ^ k.toNat := by
  have h := xb_shl1 k.toNat (by omega) v.toNat (by omega)
  rw [Int.toNat_of_nonneg hk.1, Int.toNat_of_nonneg (by omega)] at h
  rw [h, Int.natCast_mul, Int.toNat_of_nonneg (by omega)]
  congr 1
theorem x_or {a v k P : Int} (hP : (2 : Int) ^ k.toNat = P) (hv : v = 0 ∨ v = 1) (hk : 0 ≤ k ∧ k < 4) (ha : 0 ≤ a ∧ a < P) : xb_ior a (xb_ishl v k) = a + v * P := by
  have hp : ((2 ^ k.toNat : Nat) : Int) = P := by
    rw [← hP]
    simp
  have h := xb_or1 k.toNat (by omega) a.toNat (by omega) v.toNat (by omega)
  rw [Int.toNat_of_nonneg hk.1, Int.toNat_of_nonneg ha.1, Int.toNat_of_nonneg (by omega)] at h
  rw [h, Int.natCast_add, Int.natCast_mul, Int.toNat_of_nonneg ha.1, Int.toNat_of_nonneg (by omega), hp]
/-- what a place on a way gives -/
def zval (S : xS) (inp r : Int) : Int := if r < 0 then 0 else if 16 ≤ r then xb_iand (xb_ishr inp (r - 16)) 1 else S 27 r
theorem p_val {S T : xS} (h : zTile S T) {inp r : Int} (hr : -2 ≤ r ∧ r ≤ 19) : m_X9_given r inp T = some (zval S inp r) ∧ (zval S inp r = 0 ∨ zval S inp r = 1) := by
  unfold m_X9_given zval
  by_cases a : r < 0
  · rw [if_pos a]
    exact ⟨by simp (disch := omega) only [xr, xck_t, xck_T, if_pos, if_neg, if_true, if_false, xbs, or_true, true_or, and_true, true_and], Or.inl rfl⟩
  · by_cases b : 16 ≤ r
    · rw [if_neg a, if_pos b]
      exact ⟨by simp (disch := omega) only [xr, xck_t, xck_T, if_pos, if_neg, if_true, if_false, xbs, or_true, true_or, and_true, true_and], xb_and1 _⟩
    · have hT := h.2 r (by omega) (by omega)
      rw [if_neg a, if_neg b]
      refine ⟨?_, ?_⟩
      · simp (disch := omega) only [xr, xck_t, xck_T, if_pos, if_neg, if_true, if_false, xbs, or_true, true_or, and_true, true_and]
        rw [hT.2.1]
      · rw [hT.2.1]
        exact hT.2.2
theorem p_valX {S : xS} {inp w : Int} (hw : 0 ≤ w ∧ w < 52) (hr : -2 ≤ S 29 w ∧ S 29 w ≤ 19) : m_X5_valueAt w inp S = some (zval S inp (S 29 w)) := by
  unfold m_X5_valueAt m_X5_originOf zval
  by_cases a : S 29 w < 0
  · simp (disch := omega) only [xr, xck_t, xck_T, if_pos, if_neg, if_true, if_false, xbs, or_true, true_or, and_true, true_and]
  · by_cases b : 16 ≤ S 29 w
    · simp (disch := omega) only [xr, xck_t, xck_T, if_pos, if_neg, if_true, if_false, xbs, or_true, true_or, and_true, true_and]
    · simp (disch := omega) only [xr, xck_t, xck_T, if_pos, if_neg, if_true, if_false, xbs, or_true, true_or, and_true, true_and]
theorem zT_in {S T : xS} (h : zRel S T) : (∀ p, 0 ≤ p → p < 48 → -2 ≤ S 29 p ∧ S 29 p ≤ 19) ∧ (∀ o, 0 ≤ o → o < 4 → -2 ≤ S 29 (48 + o) ∧ S 29 (48 + o) ≤ 19) := by
  obtain ⟨h1, h2, h3, h4, h5, h6, h7⟩ := h
  refine ⟨fun p p0 p1 => ?_, fun o o0 o1 => ?_⟩
  · rw [(h6.1 p p0 p1).1]
    have h3 := h5.1.2.1 p p0 p1
    have hb := zbp_of (s := T 3 p) ⟨p0, p1⟩ ⟨h3.1, by omega⟩
    exact (zor_in h5.1 hb.2.1 hb.2.2).1
  · rw [(h6.2 o o0 o1).1]
    exact (zor_in h5.1 (by omega) (by omega)).1
/-- one pin looked at by the model -/
theorem p_lookPin {S T : xS} (h : zRel S T) {inp p : Int} (hp : 0 ≤ p ∧ p < 48) : ∃ T1, m_X9_gets p T = some (S 29 p, T1) ∧ m_X9_given (S 29 p) inp T1 = some (zval S inp (S 29 p)) ∧ (∀ a, a ≠ 21 → a ≠ 53 → T1 a = T a) ∧ (zval S inp (S 29 p) = 0 ∨ zval S inp (S 29 p) = 1) := by
  obtain ⟨T1, e1, e2, e3⟩ := p_gets h.2.2.2.2.1.1 hp
  have hv := p_val (h.ofT e2).2.2.2.2.1 (inp := inp) ((zT_in h).1 p hp.1 hp.2)
  refine ⟨T1, ?_, hv.1, e2, hv.2⟩
  rw [e1, (h.2.2.2.2.2.1.1 p hp.1 hp.2).1]
theorem s_tg {S : xS} {t inp a v x y : Int} (hv : 0 ≤ v ∧ v < 3) (e : m_X5_valueAt (t * 3 + v) inp S = some x) (ho : xb_ior a (xb_ishl x v) = y) (n : Nat) : m_X5_tableGives_L5 t inp S (n + 1) a v = m_X5_tableGives_L5 t inp S n y (v + 1) := by
  conv => lhs; unfold m_X5_tableGives_L5
  simp (disch := omega) only [xr, xck_t, xck_T, if_pos, if_neg, if_true, if_false, xbs, or_true, true_or, and_true, true_and, e, ho]
theorem s_tge {S : xS} {t inp a v : Int} (hv : v = 3) (n : Nat) : m_X5_tableGives_L5 t inp S (n + 1) a v = some a := by
  unfold m_X5_tableGives_L5
  simp (disch := omega) only [xr, xck_t, xck_T, if_pos, if_neg, if_true, if_false, xbs, or_true, true_or, and_true, true_and]
theorem s_lk {T T1 : xS} {t inp a v x y o : Int} (hv : 0 ≤ v ∧ v < 3) (e : m_X9_gets (3 * t + v) T = some (o, T1)) (e2 : m_X9_given o inp T1 = some x) (ho : a + xb_ishl x v = y) (n : Nat) : m_X9_looked_L5 t inp (n + 1) a v T = m_X9_looked_L5 t inp n y (v + 1) T1 := by
  conv => lhs; unfold m_X9_looked_L5
  simp (disch := omega) only [xr, xck_t, xck_T, if_pos, if_neg, if_true, if_false, xbs, or_true, true_or, and_true, true_and, e, e2, ho]
theorem s_lke {T : xS} {t inp a v : Int} (hv : v = 3) (n : Nat) : m_X9_looked_L5 t inp (n + 1) a v T = some (a, T) := by
  unfold m_X9_looked_L5
  simp (disch := omega) only [xr, xck_t, xck_T, if_pos, if_neg, if_true, if_false, xbs, or_true, true_or, and_true, true_and]
def zlk (S T : xS) (inp t : Int) : Int := xb_iand (xb_ishr (T 0 t) (zval S inp (S 29 (3 * t + 0)) + 2 * zval S inp (S 29 (3 * t + (0 + 1))) + 4 * zval S inp (S 29 (3 * t + (0 + 1 + 1))))) 1
theorem p_look {S T : xS} (h : zRel S T) {inp t : Int} (ht : 0 ≤ t ∧ t < 16) : ∃ T1, m_X5_tableGives t inp S = some (zlk S T inp t) ∧ m_X9_looked t inp T = some (zlk S T inp t, T1) ∧ (∀ a, a ≠ 21 → a ≠ 53 → T1 a = T a) ∧ (zlk S T inp t = 0 ∨ zlk S T inp t = 1) := by
  unfold zlk
  obtain ⟨T1, a1, a2, a3, a4⟩ := p_lookPin h (inp := inp) (p := 3 * t + 0) ⟨by omega, by omega⟩
  obtain ⟨T2, b1, b2, b3, b4⟩ := p_lookPin (h.ofT a3) (inp := inp) (p := 3 * t + (0 + 1)) ⟨by omega, by omega⟩
  obtain ⟨T3, c1, c2, c3, c4⟩ := p_lookPin ((h.ofT a3).ofT b3) (inp := inp) (p := 3 * t + (0 + 1 + 1)) ⟨by omega, by omega⟩
  have hi := (zT_in h).1
  have x0 := p_valX (S := S) (inp := inp) (w := t * 3 + 0) ⟨by omega, by omega⟩ (hi _ (by omega) (by omega))
  have x1 := p_valX (S := S) (inp := inp) (w := t * 3 + (0 + 1)) ⟨by omega, by omega⟩ (hi _ (by omega) (by omega))
  have x2 := p_valX (S := S) (inp := inp) (w := t * 3 + (0 + 1 + 1)) ⟨by omega, by omega⟩ (hi _ (by omega) (by omega))
  rw [show t * 3 + 0 = 3 * t + 0 by omega] at x0
  rw [show t * 3 + (0 + 1) = 3 * t + (0 + 1) by omega] at x1
  rw [show t * 3 + (0 + 1 + 1) = 3 * t + (0 + 1 + 1) by omega] at x2
  generalize zval S inp (S 29 (3 * t + 0)) = v0 at *
  generalize zval S inp (S 29 (3 * t + (0 + 1))) = v1 at *
  generalize zval S inp (S 29 (3 * t + (0 + 1 + 1))) = v2 at *
  have hT := h.2.2.2.2.1.2 t ht.1 ht.2
  have hr := h.2.2.2.2.1.1
  obtain ⟨b, e0, e1⟩ := zenc_all hr ht
  have hr0 := hr.1 t ht.1 ht.2
  have eX : m_X5_tableGives_L5 t inp S 2000 0 0 = some (v0 + 2 * v1 + 4 * v2) := by
    have o0 := x_or (a := 0) (v := v0) (k := 0) (P := 1) rfl a4 (by decide) (by decide)
    have o1 := x_or (a := 0 + v0 * 1) (v := v1) (k := 0 + 1) (P := 2) rfl b4 (by decide) (by omega)
    have o2 := x_or (a := 0 + v0 * 1 + v1 * 2) (v := v2) (k := 0 + 1 + 1) (P := 4) rfl c4 (by decide) (by omega)
    rw [s_tg (t := t) (by decide) (by rw [show t * 3 + 0 = 3 * t + 0 by omega]; exact x0) o0 1999, s_tg (t := t) (by decide) (by rw [show t * 3 + (0 + 1) = 3 * t + (0 + 1) by omega]; exact x1) o1 1998, s_tg (t := t) (by decide) (by rw [show t * 3 + (0 + 1 + 1) = 3 * t + (0 + 1 + 1) by omega]; exact x2) o2 1997, s_tge (v := 0 + 1 + 1 + 1) (by decide) 1996]
    congr 1
    omega
  have eY : m_X9_looked_L5 t inp 2000 0 0 T = some (v0 + 2 * v1 + 4 * v2, T3) := by
    have o0 := x_shl (v := v0) (k := 0) a4 (by decide)
    have o1 := x_shl (v := v1) (k := 0 + 1) b4 (by decide)
    have o2 := x_shl (v := v2) (k := 0 + 1 + 1) c4 (by decide)
    rw [s_lk (t := t) (by decide) a1 a2 rfl 1999, s_lk (t := t) (by decide) b1 b2 rfl 1998, s_lk (t := t) (by decide) c1 c2 rfl 1997, s_lke (v := 0 + 1 + 1 + 1) (by decide) 1996, o0, o1, o2]
    congr 2
    show 0 + v0 * 1 + v1 * 2 + v2 * 4 = _
    omega
  have f3 : ∀ a, a ≠ 21 → a ≠ 53 → T3 a = T a := fun a q1 q2 => by rw [c3 a q1 q2, b3 a q1 q2, a3 a q1 q2]
  have hrow : 0 ≤ v0 + 2 * v1 + 4 * v2 ∧ v0 + 2 * v1 + 4 * v2 < 8 := by omega
  generalize v0 + 2 * v1 + 4 * v2 = row at *
  have key : xb_iand (xb_ishr (T 0 t) row) 1 = ((Int64.ofInt (S 26 t) >>> ((xi row).toInt64 &&& 63) &&& (1 : Int64)).toInt32.toInt) := by
    rw [xb_shr ⟨by omega, by omega⟩ ⟨by omega, by omega⟩, hT.1]
    rcases (show row = 0 ∨ row = 1 ∨ row = 2 ∨ row = 3 ∨ row = 4 ∨ row = 5 ∨ row = 6 ∨ row = 7 by omega) with rfl | rfl | rfl | rfl | rfl | rfl | rfl | rfl
    · rw [xl_fld (k := 0) (j := 1) (m := 1) (P := 1) (M := 2) b (by decide) (by decide) rfl rfl rfl, xl_i ⟨by omega, by omega⟩, show ((2 : Int) ^ (0 : Int).toNat) = 1 from rfl, xb_and1n ⟨by omega, by omega⟩]
      omega
    · rw [xl_fld (k := 1) (j := 1) (m := 1) (P := 2) (M := 2) b (by decide) (by decide) rfl rfl rfl, xl_i ⟨by omega, by omega⟩, show ((2 : Int) ^ (1 : Int).toNat) = 2 from rfl, xb_and1n ⟨by omega, by omega⟩]
      omega
    · rw [xl_fld (k := 2) (j := 1) (m := 1) (P := 4) (M := 2) b (by decide) (by decide) rfl rfl rfl, xl_i ⟨by omega, by omega⟩, show ((2 : Int) ^ (2 : Int).toNat) = 4 from rfl, xb_and1n ⟨by omega, by omega⟩]
      omega
    · rw [xl_fld (k := 3) (j := 1) (m := 1) (P := 8) (M := 2) b (by decide) (by decide) rfl rfl rfl, xl_i ⟨by omega, by omega⟩, show ((2 : Int) ^ (3 : Int).toNat) = 8 from rfl, xb_and1n ⟨by omega, by omega⟩]
      omega
    · rw [xl_fld (k := 4) (j := 1) (m := 1) (P := 16) (M := 2) b (by decide) (by decide) rfl rfl rfl, xl_i ⟨by omega, by omega⟩, show ((2 : Int) ^ (4 : Int).toNat) = 16 from rfl, xb_and1n ⟨by omega, by omega⟩]
      omega
    · rw [xl_fld (k := 5) (j := 1) (m := 1) (P := 32) (M := 2) b (by decide) (by decide) rfl rfl rfl, xl_i ⟨by omega, by omega⟩, show ((2 : Int) ^ (5 : Int).toNat) = 32 from rfl, xb_and1n ⟨by omega, by omega⟩]
      omega
    · rw [xl_fld (k := 6) (j := 1) (m := 1) (P := 64) (M := 2) b (by decide) (by decide) rfl rfl rfl, xl_i ⟨by omega, by omega⟩, show ((2 : Int) ^ (6 : Int).toNat) = 64 from rfl, xb_and1n ⟨by omega, by omega⟩]
      omega
    · rw [xl_fld (k := 7) (j := 1) (m := 1) (P := 128) (M := 2) b (by decide) (by decide) rfl rfl rfl, xl_i ⟨by omega, by omega⟩, show ((2 : Int) ^ (7 : Int).toNat) = 128 from rfl, xb_and1n ⟨by omega, by omega⟩]
      omega
  refine ⟨T3, ?_, ?_, f3, xb_and1 _⟩
  · unfold m_X5_tableGives
    rw [eX, key]
    simp (disch := omega) only [xr, xck_t, xck_T, if_pos, if_neg, if_true, if_false, xbs, or_true, true_or, and_true, true_and]
  · unfold m_X9_looked
    rw [eY]
    simp (disch := omega) only [xr, xck_t, xck_T, if_pos, if_neg, if_true, if_false, xbs, or_true, true_or, and_true, true_and, f3 0 (by decide) (by decide)]
