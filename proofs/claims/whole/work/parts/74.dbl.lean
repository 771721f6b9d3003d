/-! doubles as eighths, compared -/
theorem zD.cmp {m n : Int} {a b : UInt64} (ha : zD m a) (hb : zD n b) (op : CmpOp) : xb_dcmp op a b = if m < n then -1 else if m = n then 0 else 1 := by
  obtain ⟨c, q, e, w⟩ := ha
  obtain ⟨c2, q2, e2, w2⟩ := hb
  have h := Jvm.FP.Core.order_whole w w2
  have e3 : FP.dcmp a b = some (compare m n) := by
    show Jvm.FP.Core.order (Jvm.FP.Core.val64 a) (Jvm.FP.Core.val64 b) = _
    rw [e, e2, ← h]
    unfold Jvm.FP.Core.order
    have hm : min (q + 3) (q2 + 3) = min q q2 + 3 := by omega
    dsimp only
    unfold Jvm.FP.Core.inUnits
    rw [hm, show q + 3 - (min q q2 + 3) = q - min q q2 by omega, show q2 + 3 - (min q q2 + 3) = q2 - min q q2 by omega]
  unfold xb_dcmp
  rw [e3]
  by_cases h1 : m < n
  · rw [if_pos h1, Int.compare_eq_lt.mpr h1]
    rfl
  · rw [if_neg h1]
    by_cases h2 : m = n
    · rw [if_pos h2, Int.compare_eq_eq.mpr h2]
      rfl
    · rw [if_neg h2, Int.compare_eq_gt.mpr (by omega)]
      rfl
theorem zD.n64 {n : Int} {a : UInt64} (h : zD n a) : a &&& 9223372036854775807 ≤ (9218868437227405312 : UInt64) := by
  have hv := h.val
  have hlt := a.toNat_lt
  apply UInt64.le_iff_toNat_le.mpr
  rw [UInt64.toNat_and]
  show a.toNat &&& 9223372036854775807 ≤ 9218868437227405312
  have e : a.toNat &&& (2 ^ 63 - 1) = a.toNat % 2 ^ 63 := Nat.and_two_pow_sub_one_eq_mod a.toNat 63
  rw [show (9223372036854775807 : Nat) = 2 ^ 63 - 1 by decide, e]
  apply Nat.le_of_not_lt
  intro hg
  apply hv
  unfold Jvm.FP.Core.val64 Jvm.FP.Core.decode Jvm.FP.Core.fieldE Jvm.FP.Core.fieldT
  have ht : Jvm.FP.Core.b64.tails = 4503599627370496 := by decide
  have he : Jvm.FP.Core.b64.exps = 2048 := by decide
  rw [ht, he, if_pos (by omega), if_neg (by omega)]
theorem zD.fn64 {n : Int} {a : UInt64} (h : zD n a) : vf_n64 a := h.n64
theorem zD_0 : zD 0 FP.dconst0 := ⟨0, Jvm.FP.Core.b64.qmin, Jvm.FP.Core.val64_dconst0, by show Jvm.FP.Core.signed _ (0 * _) = 0 * _; rw [Nat.zero_mul, Jvm.FP.Core.signed_zero, Int.zero_mul]⟩
theorem zD_m8 : zD (-8) (13830554455654793216 : UInt64) := ⟨2 ^ 52, -52, by decide +kernel, by show Jvm.FP.Core.signed _ _ = _; decide +kernel⟩
theorem zD_4 : zD 4 (4602678819172646912 : UInt64) := ⟨2 ^ 52, -53, by decide +kernel, by show Jvm.FP.Core.signed _ _ = _; decide +kernel⟩
theorem zD_5 : zD 5 (4603804719079489536 : UInt64) := ⟨5 * 2 ^ 50, -53, by decide +kernel, by show Jvm.FP.Core.signed _ _ = _; decide +kernel⟩
theorem zD_2 : zD 2 (4598175219545276416 : UInt64) := ⟨2 ^ 52, -54, by decide +kernel, by show Jvm.FP.Core.signed _ _ = _; decide +kernel⟩
theorem zD_3 : zD 3 (4600427019358961664 : UInt64) := ⟨3 * 2 ^ 51, -54, by decide +kernel, by show Jvm.FP.Core.signed _ _ = _; decide +kernel⟩
theorem zD_1 : zD 1 (4593671619917905920 : UInt64) := ⟨2 ^ 52, -55, by decide +kernel, by show Jvm.FP.Core.signed _ _ = _; decide +kernel⟩
