/-! doubles as eighths: zD n a says that a is n/8, a zero positive -/
def zD (n : Int) (a : UInt64) : Prop := ∃ (c : Nat) (q : Int), Jvm.FP.Core.val64 a = .fin (decide (n < 0)) c q ∧ Jvm.FP.Core.Whole n (.fin (decide (n < 0)) c (q + 3))
theorem zD.round {n : Int} {s : Bool} {c : Nat} {q : Int} (h : Jvm.FP.Core.Whole n (.fin s c (q + 3))) : Jvm.FP.Core.round Jvm.FP.Core.b64 (.fin s c q) = Jvm.FP.Core.roundRatio Jvm.FP.Core.b64 s n.natAbs 1 (-3) := by
  refine Jvm.FP.Core.roundRatio_congr (by decide) (by decide) ?_
  have := Jvm.FP.Core.whole_natAbs h
  rw [show (q - -3).toNat = (q + 3).toNat by omega, show (-3 - q).toNat = (-(q + 3)).toNat by omega]
  simpa using this
theorem zD.exact {n : Int} (hn : n.natAbs ≤ 2 ^ 50) (s : Bool) (hs : n ≠ 0 → s = decide (n < 0)) : ∃ (c : Nat) (q : Int), Jvm.FP.Core.roundRatio Jvm.FP.Core.b64 s n.natAbs 1 (-3) = .fin s c q ∧ Jvm.FP.Core.Whole n (.fin s c (q + 3)) := by
  by_cases h0 : n = 0
  · subst h0
    refine ⟨0, Jvm.FP.Core.b64.qmin, rfl, ?_⟩
    show Jvm.FP.Core.signed s (0 * _) = 0 * _
    rw [Nat.zero_mul, Jvm.FP.Core.signed_zero, Int.zero_mul]
  obtain ⟨c, q, hf, e⟩ := Jvm.FP.Core.natFit Jvm.FP.Core.good_b64 Jvm.FP.Core.wide_b64 s (n := n.natAbs) (Nat.le_trans hn (by decide))
  have hc : c < 2 ^ 53 := hf.1
  have h1 := hf.2.2.2
  have hq1 : Jvm.FP.Core.b64.qmin = -1074 := by decide
  have hq2 : Jvm.FP.Core.b64.qmax = 971 := by decide
  have h2 : Jvm.FP.Core.b64.qmin ≤ q := hf.2.1
  have h3 : q ≤ Jvm.FP.Core.b64.qmax := hf.2.2.1
  have hq : -53 < q := by
    apply Int.lt_of_not_ge
    intro hle
    have e1 : (q - 0).toNat = 0 := by omega
    have e2 : 53 ≤ (0 - q).toNat := by omega
    rw [e1] at e
    simp only [Nat.mul_one, Nat.pow_zero] at e
    have e3 : 2 ^ 53 ≤ 2 ^ (0 - q).toNat := Nat.pow_le_pow_right (by decide) e2
    have e4 : 1 * 2 ^ (0 - q).toNat ≤ n.natAbs * 2 ^ (0 - q).toNat := Nat.mul_le_mul_right _ (by omega)
    omega
  have ht : Jvm.FP.Core.b64.tails ≤ c := by
    rcases h1 with h1 | h1
    · omega
    · exact h1
  refine ⟨c, q - 3, ?_, ?_⟩
  · refine Jvm.FP.Core.roundRatio_exact Jvm.FP.Core.good_b64 (by decide) ⟨hc, by omega, by omega, Or.inr ht⟩ ?_
    rw [show (-3 - (q - 3)).toNat = (0 - q).toNat by omega, show (q - 3 - -3).toNat = (q - 0).toNat by omega]
    exact e
  · rw [show q - 3 + 3 = q by omega]
    have e5 : c * 2 ^ q.toNat = n.natAbs * 2 ^ (-q).toNat := by
      rw [show (q - 0).toNat = q.toNat by omega, show (0 - q).toNat = (-q).toNat by omega, Nat.mul_one] at e
      exact e.symm
    show Jvm.FP.Core.signed s (c * 2 ^ q.toNat) = n * ((2 ^ (-q).toNat : Nat) : Int)
    rw [e5, Jvm.FP.Core.signed_mul, hs h0]
    congr 1
    unfold Jvm.FP.Core.signed
    by_cases h : n < 0
    · rw [if_pos (by simpa using h)]
      omega
    · rw [if_neg (by simpa using h)]
      omega
theorem zD.of_round {n : Int} {s : Bool} {c : Nat} {q : Int} {a : UInt64} (hn : n.natAbs ≤ 2 ^ 50) (h : Jvm.FP.Core.Whole n (.fin s c (q + 3))) (hz : n = 0 → s = false) (ha : Jvm.FP.Core.val64 a = Jvm.FP.Core.round Jvm.FP.Core.b64 (.fin s c q)) : zD n a := by
  have hs : s = decide (n < 0) := by
    by_cases h0 : n = 0
    · rw [hz h0]
      simp [h0]
    · exact Jvm.FP.Core.whole_sign h h0
  obtain ⟨c1, q1, e, w⟩ := zD.exact hn s (fun _ => hs)
  refine ⟨c1, q1, ?_, ?_⟩
  · rw [ha, zD.round h, e, hs]
  · rw [← hs]
    exact w
theorem zD.uniq {n : Int} {a b : UInt64} (ha : zD n a) (hb : zD n b) : a = b := by
  obtain ⟨c, q, e, w⟩ := ha
  obtain ⟨c2, q2, e2, w2⟩ := hb
  have fa := Jvm.FP.Core.val64_fits a
  have fb := Jvm.FP.Core.val64_fits b
  rw [e] at fa
  rw [e2] at fb
  refine Jvm.FP.Core.val64_inj (by rw [e]; exact fun h => nomatch h) ?_
  rw [e, e2, ← Jvm.FP.Core.round_of_fits Jvm.FP.Core.good_b64 fa, ← Jvm.FP.Core.round_of_fits Jvm.FP.Core.good_b64 fb, zD.round w, zD.round w2]
theorem zD.add {m n : Int} {a b : UInt64} (ha : zD m a) (hb : zD n b) (h : (m + n).natAbs ≤ 2 ^ 50) : zD (m + n) (FP.dadd a b) := by
  obtain ⟨c, q, e, w⟩ := ha
  obtain ⟨c2, q2, e2, w2⟩ := hb
  have hw := Jvm.FP.Core.whole_sum w w2
  have e3 := Jvm.FP.Core.val64_dadd a b
  rw [e, e2] at e3
  have hm : min (q + 3) (q2 + 3) = min q q2 + 3 := by omega
  have hu : Jvm.FP.Core.sumUnits (decide (m < 0)) c (q + 3) (decide (n < 0)) c2 (q2 + 3) (min q q2 + 3) = Jvm.FP.Core.sumUnits (decide (m < 0)) c q (decide (n < 0)) c2 q2 (min q q2) := by
    unfold Jvm.FP.Core.sumUnits Jvm.FP.Core.inUnits
    rw [show q + 3 - (min q q2 + 3) = q - min q q2 by omega, show q2 + 3 - (min q q2 + 3) = q2 - min q q2 by omega]
  unfold Jvm.FP.Core.exactSum at hw e3
  dsimp only at hw e3
  rw [hm, hu] at hw
  refine zD.of_round h hw (fun h0 => ?_) e3
  have hz := (Jvm.FP.Core.whole_zero hw).mpr h0
  unfold Jvm.FP.Core.sumSign
  rw [if_pos (by omega)]
  by_cases g : m < 0
  · simp
    omega
  · simp [g]
theorem zD.val {n : Int} {a : UInt64} (h : zD n a) : Jvm.FP.Core.val64 a ≠ .nan := by
  obtain ⟨c, q, e, w⟩ := h
  rw [e]
  exact fun h => nomatch h
theorem zD.mul {m n : Int} {a : UInt64} {x : Int32} (ha : zD m a) (hm : 0 < m) (hx : x.toInt = n) (h : (m * n).natAbs ≤ 2 ^ 50) : zD (m * n) (FP.dmul a (FP.i2d x)) := by
  subst hx
  obtain ⟨c, q, e, w⟩ := ha
  have hi := Jvm.FP.Core.i2d_int x
  have ei := Jvm.FP.Core.val64_i2d x
  unfold Jvm.FP.Core.DInt at hi
  have e3 := Jvm.FP.Core.val64_dmul a (FP.i2d x)
  rw [e] at e3
  have hd : ∃ c2 q2, Jvm.FP.Core.val64 (Jvm.FP.Core.i2d x) = .fin (decide (x.toInt < 0)) c2 q2 := by
    rw [ei]
    unfold Jvm.FP.Core.ofInt
    have hx1 := x.toInt_lt
    have hx2 := x.le_toInt
    obtain ⟨c3, q3, hf, e4⟩ := Jvm.FP.Core.natFit Jvm.FP.Core.good_b64 Jvm.FP.Core.wide_b64 (decide (x.toInt < 0)) (n := x.toInt.natAbs) (show _ ≤ 2 ^ 53 by omega)
    exact ⟨c3, q3, Jvm.FP.Core.roundRatio_exact Jvm.FP.Core.good_b64 (by decide) hf e4⟩
  obtain ⟨c2, q2, e2⟩ := hd
  rw [e2] at hi
  have e5 : Jvm.FP.Core.val64 (FP.i2d x) = .fin (decide (x.toInt < 0)) c2 q2 := e2
  rw [e5] at e3
  have hw := Jvm.FP.Core.whole_product w hi
  unfold Jvm.FP.Core.exactProduct at hw e3
  dsimp only at hw e3
  rw [show q + 3 + q2 = q + q2 + 3 by omega] at hw
  refine zD.of_round h hw (fun h0 => ?_) e3
  have : x.toInt = 0 := by
    rcases Int.mul_eq_zero.mp h0 with g | g
    · omega
    · exact g
  simp [this]
  omega
theorem zD.mul2 {m n : Int} {a : UInt64} {x : Int32} (ha : zD m a) (hm : 0 < m) (hx : x.toInt = n) (h : (m * n).natAbs ≤ 2 ^ 50) : zD (m * n) (FP.dmul (FP.i2d x) a) := by
  have e : FP.dmul (FP.i2d x) a = FP.dmul a (FP.i2d x) := Jvm.FP.Core.dmul_comm _ _
  rw [e]
  exact ha.mul hm hx h
theorem zD.div8 {n : Int} {x : Int32} (hx : x.toInt = n) (h : n.natAbs ≤ 2 ^ 50) : zD n (FP.ddiv (FP.i2d x) (4620693217682128896 : UInt64)) := by
  subst hx
  have hi := Jvm.FP.Core.i2d_int x
  have ei := Jvm.FP.Core.val64_i2d x
  unfold Jvm.FP.Core.DInt at hi
  have e3 := Jvm.FP.Core.val64_ddiv (FP.i2d x) (4620693217682128896 : UInt64)
  have hd : ∃ c2 q2, Jvm.FP.Core.val64 (Jvm.FP.Core.i2d x) = .fin (decide (x.toInt < 0)) c2 q2 := by
    rw [ei]
    unfold Jvm.FP.Core.ofInt
    have hx1 := x.toInt_lt
    have hx2 := x.le_toInt
    obtain ⟨c3, q3, hf, e4⟩ := Jvm.FP.Core.natFit Jvm.FP.Core.good_b64 Jvm.FP.Core.wide_b64 (decide (x.toInt < 0)) (n := x.toInt.natAbs) (show _ ≤ 2 ^ 53 by omega)
    exact ⟨c3, q3, Jvm.FP.Core.roundRatio_exact Jvm.FP.Core.good_b64 (by decide) hf e4⟩
  obtain ⟨c2, q2, e2⟩ := hd
  rw [e2] at hi
  have e5 : Jvm.FP.Core.val64 (FP.i2d x) = .fin (decide (x.toInt < 0)) c2 q2 := e2
  have e8 : Jvm.FP.Core.val64 (4620693217682128896 : UInt64) = .fin false (2 ^ 52) (-49) := by decide +kernel
  rw [e5, e8] at e3
  refine zD.of_round (s := decide (x.toInt < 0)) (c := c2) (q := q2 - 3) h (by rw [show q2 - 3 + 3 = q2 by omega]; exact hi) (fun h0 => by simp [h0]) (Eq.trans e3 ?_)
  have hb : ∀ s : Bool, (s != false) = s := by decide
  unfold Jvm.FP.Core.quotient Jvm.FP.Core.round
  dsimp only
  rw [if_neg (show ¬ (2 ^ 52 : Nat) = 0 by decide), hb]
  refine Jvm.FP.Core.roundRatio_congr (by decide) (by decide) ?_
  rw [show (q2 - -49 - (q2 - 3)).toNat = 52 by omega, show (q2 - 3 - (q2 - -49)).toNat = 0 by omega]
  simp
theorem zD.sub {m n : Int} {a b : UInt64} (ha : zD m a) (hb : zD n b) (hn : 0 ≤ n) (h : (m - n).natAbs ≤ 2 ^ 50) : zD (m - n) (FP.dsub a b) := by
  obtain ⟨c, q, e, w⟩ := ha
  obtain ⟨c2, q2, e2, w2⟩ := hb
  have hw := Jvm.FP.Core.whole_sum w (Jvm.FP.Core.whole_negate w2)
  have e3 := Jvm.FP.Core.val64_dsub a b
  rw [e, e2] at e3
  unfold Jvm.FP.Core.negate at hw e3
  dsimp only at hw e3
  have hm : min (q + 3) (q2 + 3) = min q q2 + 3 := by omega
  have hu : Jvm.FP.Core.sumUnits (decide (m < 0)) c (q + 3) (!(decide (n < 0))) c2 (q2 + 3) (min q q2 + 3) = Jvm.FP.Core.sumUnits (decide (m < 0)) c q (!(decide (n < 0))) c2 q2 (min q q2) := by
    unfold Jvm.FP.Core.sumUnits Jvm.FP.Core.inUnits
    rw [show q + 3 - (min q q2 + 3) = q - min q q2 by omega, show q2 + 3 - (min q q2 + 3) = q2 - min q q2 by omega]
  unfold Jvm.FP.Core.exactSum at hw e3
  dsimp only at hw e3
  rw [hm, hu, ← Int.sub_eq_add_neg] at hw
  refine zD.of_round h hw (fun h0 => ?_) e3
  have hz := (Jvm.FP.Core.whole_zero hw).mpr h0
  unfold Jvm.FP.Core.sumSign
  rw [if_pos (by omega)]
  by_cases g : m < 0
  · omega
  · simp [g]
