/-! a new object: the tables of the fabric -/
/-- the channel of the step j of the laying, what it is switched to there -/
def zst (j : Int) : Int := zbc (j / 4) (j % 4 + 1)
def zsw (j : Int) : Int := 9 * (j / 4 / 8) + 1 + j / 4 % 8
def zct (w j : Int) : Int := zsum (fun i => zi (zst i = w)) j.toNat
theorem zcap8 : ∀ w, w < 148 → zct (w : Nat) 512 ≤ 8 := by decide +kernel
theorem zwi_all : ∀ c, c < 128 → ∀ t, t < 3 → m_X1_wireInto ((c / 8 : Nat) : Int) (((c % 8 / 2 + (t + 1)) % 4 : Nat) : Int) ((c % 2 : Nat) : Int) = some (zbc (c : Nat) ((t + 2 : Nat) : Int)) := by decide +kernel
theorem zwp_all : ∀ t, t < 16 → ∀ d, d < 4 → ∀ k, k < 2 → m_X1_wireInto (t : Nat) (d : Nat) (k : Nat) = some (zbp ((3 * t : Nat) : Int) ((2 + (d * 2) + k : Nat) : Int)) := by decide +kernel
theorem zb1_all : ∀ c, c < 128 → zbc (c : Nat) 1 = (((c / 8) * 9 : Nat) : Int) ∧ zbc (c : Nat) 0 = -1 := by decide +kernel
theorem zp_all : ∀ p, p < 48 → ∀ s, s < 10 → zbp (p : Nat) (s : Nat) = zbp ((3 * (p / 3) : Nat) : Int) (s : Nat) := by decide +kernel
theorem zp1_all : ∀ t, t < 16 → zbp ((3 * t : Nat) : Int) 1 = ((t * 9 : Nat) : Int) ∧ zbp ((3 * t : Nat) : Int) 0 = -1 := by decide +kernel
theorem zst_in {j : Int} (hj : 0 ≤ j ∧ j < 512) : -1 ≤ zst j ∧ zst j < 148 := (zbc_of (c := j / 4) (s := j % 4 + 1) ⟨by omega, by omega⟩ ⟨by omega, by omega⟩).2
theorem zct_s (w : Int) {j : Int} (h : 0 ≤ j) : zct w (j + 1) = zct w j + zi (zst j = w) := zsum_s _ h
theorem zct_mono (w : Int) : ∀ (d : Nat) (j : Int), 0 ≤ j → zct w j ≤ zct w (j + d) := by
  intro d
  induction d with
  | zero => intro j _; rw [show j + ((0 : Nat) : Int) = j by omega]; exact Int.le_refl _
  | succ d ih =>
    intro j h
    have i := ih j h
    rw [show j + ((d + 1 : Nat) : Int) = (j + d) + 1 by omega, zct_s w (by omega)]
    have := zi_01 (zst (j + d) = w)
    omega
theorem zct_8 {w j : Int} (hw : 0 ≤ w ∧ w < 148) (hj : 0 ≤ j ∧ j ≤ 512) : 0 ≤ zct w j ∧ zct w j ≤ 8 := by
  have a := zct_mono w (512 - j).toNat j hj.1
  rw [show j + (((512 - j).toNat : Nat) : Int) = 512 by omega] at a
  have b := zcap8 w.toNat (by omega)
  rw [Int.toNat_of_nonneg hw.1] at b
  have c := zct_mono w j.toNat 0 (by omega)
  rw [show (0 : Int) + ((j.toNat : Nat) : Int) = j by omega] at c
  have d : zct w 0 = 0 := rfl
  omega
/-- after j steps -/
def zIv (j : Int) (S : xS) : Prop := (∀ i, 0 ≤ i → i < j → S 0 (zsw i * 5 + (i % 4 + 1)) = zst i) ∧ (∀ c, 0 ≤ c → c < 128 → S 0 ((9 * (c / 8) + 1 + c % 8) * 5) = -1) ∧ (∀ w, 0 ≤ w → w < 148 → S 3 w = zct w j) ∧ (∀ i, 0 ≤ i → i < j → 0 ≤ zst i → S 2 (zst i * 8 + zct (zst i) i) = zsw i)
theorem zct_lt {i j w : Int} (h0 : 0 ≤ i) (h : i < j) (e : zst i = w) : zct w i + 1 ≤ zct w j := by
  have a := zct_mono w (j - (i + 1)).toNat (i + 1) (by omega)
  rw [show (i + 1) + (((j - (i + 1)).toNat : Nat) : Int) = j by omega, zct_s w h0, zi_t e] at a
  exact a
theorem p_lay {j : Int} {S : xS} (h : zIv j S) (hj : 0 ≤ j ∧ j < 512) : ∃ S1, m_X1_laySwitch (zsw j) (j % 4 + 1) (zst j) S = some S1 ∧ zIv (j + 1) S1 ∧ S1 1 = S 1 := by
  obtain ⟨h0, h1, h2, h3⟩ := h
  have hz := zst_in hj
  have zj : 0 ≤ zsw j ∧ zsw j < 144 := by
    unfold zsw
    omega
  have e0 : ∀ i, 0 ≤ i → i < j + 1 → xup S 0 (zsw j * 5 + (j % 4 + 1)) (zst j) 0 (zsw i * 5 + (i % 4 + 1)) = zst i := fun i i0 i1 => by
    by_cases c : i = j
    · rw [c, xup_s]
    · rw [xup_i _ _ _ (by unfold zsw; omega)]
      exact h0 i i0 (by omega)
  have e1 : ∀ c, 0 ≤ c → c < 128 → xup S 0 (zsw j * 5 + (j % 4 + 1)) (zst j) 0 ((9 * (c / 8) + 1 + c % 8) * 5) = -1 := fun c c0 c1 => by
    rw [xup_i _ _ _ (by unfold zsw; omega)]
    exact h1 c c0 c1
  unfold m_X1_laySwitch
  by_cases c : zst j = -1
  · refine ⟨xup S 0 (zsw j * 5 + (j % 4 + 1)) (zst j), ?_, ⟨e0, e1, fun w w0 w1 => ?_, fun i i0 i1 i2 => ?_⟩, xup_q _ _ _ (by decide)⟩
    · simp (disch := omega) only [xr, xck_t, xck_T, if_pos, if_neg, if_true, if_false, xbs, or_true, true_or, and_true, true_and]
    · rw [xup_q _ _ _ (by decide : (3 : Nat) ≠ 0), h2 w w0 w1, zct_s w hj.1, zi_f (by omega), Int.add_zero]
    · rw [xup_q _ _ _ (by decide : (2 : Nat) ≠ 0)]
      have : i ≠ j := fun q => by
        rw [q] at i2
        omega
      exact h3 i i0 (by omega) i2
  · have h3w := h2 (zst j) (by omega) hz.2
    have l8 := zct_lt hj.1 (Int.lt_succ j) (rfl : zst j = zst j)
    have m8 := zct_8 (w := zst j) (j := j + 1) ⟨by omega, hz.2⟩ ⟨by omega, by omega⟩
    have n8 := zct_8 (w := zst j) (j := j) ⟨by omega, hz.2⟩ ⟨by omega, by omega⟩
    have l8 : zct (zst j) j + 1 ≤ zct (zst j) (j + 1) := l8
    rw [h3w]
    refine ⟨xup (xup (xup S 0 (zsw j * 5 + (j % 4 + 1)) (zst j)) 2 (zst j * 8 + zct (zst j) j) (zsw j)) 3 (zst j) (zct (zst j) j + 1), ?_, ⟨fun i i0 i1 => ?_, fun c c0 c1 => ?_, fun w w0 w1 => ?_, fun i i0 i1 i2 => ?_⟩, ?_⟩
    · simp (disch := omega) only [xr, xck_t, xck_T, if_pos, if_neg, if_true, if_false, xbs, or_true, true_or, and_true, true_and]
    · rw [xup_q _ _ _ (by decide : (0 : Nat) ≠ 3), xup_q _ _ _ (by decide : (0 : Nat) ≠ 2)]
      exact e0 i i0 i1
    · rw [xup_q _ _ _ (by decide : (0 : Nat) ≠ 3), xup_q _ _ _ (by decide : (0 : Nat) ≠ 2)]
      exact e1 c c0 c1
    · rw [zct_s w hj.1]
      by_cases q : w = zst j
      · rw [q, xup_s, zi_t rfl]
      · rw [xup_i _ _ _ q, xup_q _ _ _ (by decide : (3 : Nat) ≠ 2), xup_q _ _ _ (by decide : (3 : Nat) ≠ 0), h2 w w0 w1, zi_f (fun z => q z.symm), Int.add_zero]
    · rw [xup_q _ _ _ (by decide : (2 : Nat) ≠ 3)]
      by_cases q : i = j
      · rw [q, xup_s]
      · have hi := zst_in (j := i) ⟨i0, by omega⟩
        have ni := zct_8 (w := zst i) (j := i) ⟨by omega, hi.2⟩ ⟨by omega, by omega⟩
        have li := zct_lt (w := zst i) i0 (show i < i + 1 by omega) rfl
        have mi := zct_8 (w := zst i) (j := i + 1) ⟨by omega, hi.2⟩ ⟨by omega, by omega⟩
        have ne : zst i * 8 + zct (zst i) i ≠ zst j * 8 + zct (zst j) j := fun z => by
          have ee : zst i = zst j := by omega
          have := zct_lt (w := zst j) i0 (show i < j by omega) ee
          rw [ee] at z
          omega
        rw [xup_i _ _ _ ne, xup_q _ _ _ (by decide : (2 : Nat) ≠ 0)]
        exact h3 i i0 (by omega) i2
    · rw [xup_q _ _ _ (by decide : (1 : Nat) ≠ 3), xup_q _ _ _ (by decide : (1 : Nat) ≠ 2), xup_q _ _ _ (by decide : (1 : Nat) ≠ 0)]
theorem zwi_of {c t : Int} (hc : 0 ≤ c ∧ c < 128) (ht : 1 ≤ t ∧ t ≤ 3) : m_X1_wireInto (c / 8) ((c % 8 / 2 + t) % 4) (c % 2) = some (zbc c (1 + t)) := by
  have h := zwi_all c.toNat (by omega) (t - 1).toNat (by omega)
  have e1 : ((c.toNat / 8 : Nat) : Int) = c / 8 := by omega
  have e2 : (((c.toNat % 8 / 2 + ((t - 1).toNat + 1)) % 4 : Nat) : Int) = (c % 8 / 2 + t) % 4 := by omega
  have e3 : ((c.toNat % 2 : Nat) : Int) = c % 2 := by omega
  have e4 : (((t - 1).toNat + 2 : Nat) : Int) = 1 + t := by omega
  rw [e1, e2, e3, e4, Int.toNat_of_nonneg hc.1] at h
  exact h
theorem p_chan22 {t d k : Int} (ht : 0 ≤ t ∧ t < 16) (hd : 0 ≤ d ∧ d < 4) (hk : 0 ≤ k ∧ k < 2) : ∀ (e n : Nat) (v : Int) (S : xS), zIv ((8 * t + 2 * d + k) * 4 + v) S → 1 ≤ v → v + e = 4 → e < n → ∃ S1, m_X1_layChannel_L22 t d k (t * 9 + 1 + d * 2 + k) n v S = some S1 ∧ zIv ((8 * t + 2 * d + k) * 4 + 4) S1 ∧ S1 1 = S 1 := by
  intro e
  induction e with
  | zero =>
    intro n v S h h0 h1 h2
    obtain ⟨n, rfl⟩ : ∃ j, n = j + 1 := ⟨n - 1, by omega⟩
    obtain rfl : v = 4 := by omega
    refine ⟨S, ?_, h, rfl⟩
    unfold m_X1_layChannel_L22
    simp (disch := omega) only [xr, xck_t, xck_T, if_pos, if_neg, if_true, if_false, xbs, or_true, true_or, and_true, true_and]
  | succ e ih =>
    intro n v S h h0 h1 h2
    obtain ⟨n, rfl⟩ : ∃ j, n = j + 1 := ⟨n - 1, by omega⟩
    have ew := zwi_of (c := 8 * t + 2 * d + k) (t := v) ⟨by omega, by omega⟩ ⟨by omega, by omega⟩
    rw [show (8 * t + 2 * d + k) / 8 = t by omega, show (8 * t + 2 * d + k) % 8 / 2 = d by omega, show (8 * t + 2 * d + k) % 2 = k by omega] at ew
    obtain ⟨S1, a1, a2, a3⟩ := p_lay h ⟨by omega, by omega⟩
    have e1 : zsw ((8 * t + 2 * d + k) * 4 + v) = t * 9 + 1 + d * 2 + k := by
      unfold zsw
      omega
    have e2 : ((8 * t + 2 * d + k) * 4 + v) % 4 + 1 = 1 + v := by omega
    have e3 : zst ((8 * t + 2 * d + k) * 4 + v) = zbc (8 * t + 2 * d + k) (1 + v) := by
      unfold zst
      rw [e2, show ((8 * t + 2 * d + k) * 4 + v) / 4 = 8 * t + 2 * d + k by omega]
    rw [e1, e2, e3] at a1
    rw [Int.add_assoc] at a2
    obtain ⟨S2, i1, i2, i3⟩ := ih n (v + 1) S1 a2 (by omega) (by omega) (by omega)
    refine ⟨S2, ?_, i2, by rw [i3, a3]⟩
    unfold m_X1_layChannel_L22
    rw [ew, xbs, a1, xbs]
    simp (disch := omega) only [xr, xck_t, xck_T, if_pos, if_neg, if_true, if_false, xbs, or_true, true_or, and_true, true_and]
    exact i1
theorem p_chan {t d k : Int} (ht : 0 ≤ t ∧ t < 16) (hd : 0 ≤ d ∧ d < 4) (hk : 0 ≤ k ∧ k < 2) {S : xS} (h : zIv ((8 * t + 2 * d + k) * 4) S) : ∃ S1, m_X1_layChannel t d k S = some S1 ∧ zIv ((8 * t + 2 * d + (k + 1)) * 4) S1 ∧ S1 1 = S 1 := by
  obtain ⟨S1, a1, a2, a3⟩ := p_lay h ⟨by omega, by omega⟩
  have e1 : zsw ((8 * t + 2 * d + k) * 4) = t * 9 + 1 + d * 2 + k := by
    unfold zsw
    omega
  have e2 : (8 * t + 2 * d + k) * 4 % 4 + 1 = 1 := by omega
  have e3 : zst ((8 * t + 2 * d + k) * 4) = t * 9 := by
    unfold zst
    rw [e2, show (8 * t + 2 * d + k) * 4 / 4 = 8 * t + 2 * d + k by omega]
    have b := (zb1_all (8 * t + 2 * d + k).toNat (by omega)).1
    rw [Int.toNat_of_nonneg (by omega)] at b
    rw [b]
    omega
  rw [e1, e2, e3] at a1
  obtain ⟨S2, b1, b2, b3⟩ := p_chan22 ht hd hk 3 2000 1 S1 a2 (by omega) (by omega) (by omega)
  refine ⟨S2, ?_, ?_, by rw [b3, a3]⟩
  · unfold m_X1_layChannel m_X1_channelOf m_X1_outletOf
    rw [xbs, xbs, a1, xbs, b1, xbs]
  · rw [show (8 * t + 2 * d + (k + 1)) * 4 = (8 * t + 2 * d + k) * 4 + 4 by omega]
    exact b2
/-- the ways to the pins: those of the tiles before t, and of this tile's settings before s -/
def zIp (t s : Int) (S : xS) : Prop := (∀ u x, 0 ≤ u → u < 16 → 1 ≤ x → x < 10 → (u < t ∨ (u = t ∧ x < s)) → S 1 (u * 10 + x) = zbp (3 * u) x) ∧ (∀ u, 0 ≤ u → u < 16 → S 1 (u * 10) = -1)
theorem zIp.of {t s : Int} {S S1 : xS} (h : zIp t s S) (e : S1 1 = S 1) : zIp t s S1 := by
  unfold zIp at h ⊢
  rw [e]
  exact h
theorem zIp.up {t s y : Int} {S : xS} (h : zIp t s S) (ht : 0 ≤ t ∧ t < 16) (hs : 1 ≤ s ∧ s < 10) (e : y = zbp (3 * t) s) : zIp t (s + 1) (xup S 1 (t * 10 + s) y) := by
  refine ⟨fun u x u0 u1 x0 x1 hx => ?_, fun u u0 u1 => ?_⟩
  · by_cases c : u = t ∧ x = s
    · rw [c.1, c.2, xup_s, e]
    · rw [xup_i _ _ _ (by omega)]
      exact h.1 u x u0 u1 x0 x1 (by omega)
  · rw [xup_i _ _ _ (by omega)]
    exact h.2 u u0 u1
theorem zIv.of {j : Int} {S S1 : xS} (h : zIv j S) (a : S1 0 = S 0) (b : S1 2 = S 2) (c : S1 3 = S 3) : zIv j S1 := by
  unfold zIv at h ⊢
  rw [a, b, c]
  exact h
theorem zwp_of {t d k : Int} (ht : 0 ≤ t ∧ t < 16) (hd : 0 ≤ d ∧ d < 4) (hk : 0 ≤ k ∧ k < 2) : m_X1_wireInto t d k = some (zbp (3 * t) (2 + d * 2 + k)) := by
  have h := zwp_all t.toNat (by omega) d.toNat (by omega) k.toNat (by omega)
  have e1 : ((3 * t.toNat : Nat) : Int) = 3 * t := by omega
  have e2 : ((2 + d.toNat * 2 + k.toNat : Nat) : Int) = 2 + d * 2 + k := by omega
  rw [e1, e2, Int.toNat_of_nonneg ht.1, Int.toNat_of_nonneg hd.1, Int.toNat_of_nonneg hk.1] at h
  exact h
theorem p_track {t d : Int} (ht : 0 ≤ t ∧ t < 16) (hd : 0 ≤ d ∧ d < 4) : ∀ (e n : Nat) (k : Int) (S : xS), zIv ((8 * t + 2 * d + k) * 4) S → zIp t (2 + d * 2 + k) S → 0 ≤ k → k + e = 2 → e < n → ∃ S1, m_X1_laySwitches_L24 t d n k S = some S1 ∧ zIv ((8 * t + 2 * (d + 1)) * 4) S1 ∧ zIp t (2 + (d + 1) * 2) S1 := by
  intro e
  induction e with
  | zero =>
    intro n k S h hp h0 h1 h2
    obtain ⟨n, rfl⟩ : ∃ j, n = j + 1 := ⟨n - 1, by omega⟩
    obtain rfl : k = 2 := by omega
    refine ⟨S, ?_, ?_, ?_⟩
    · unfold m_X1_laySwitches_L24
      simp (disch := omega) only [xr, xck_t, xck_T, if_pos, if_neg, if_true, if_false, xbs, or_true, true_or, and_true, true_and]
    · rw [show (8 * t + 2 * (d + 1)) * 4 = (8 * t + 2 * d + 2) * 4 by omega]
      exact h
    · rw [show 2 + (d + 1) * 2 = 2 + d * 2 + 2 by omega]
      exact hp
  | succ e ih =>
    intro n k S h hp h0 h1 h2
    obtain ⟨n, rfl⟩ : ∃ j, n = j + 1 := ⟨n - 1, by omega⟩
    have hk : 0 ≤ k ∧ k < 2 := by omega
    have ew := zwp_of ht hd hk
    have hp1 := hp.up ht ⟨by omega, by omega⟩ (rfl : zbp (3 * t) (2 + d * 2 + k) = _)
    obtain ⟨S1, a1, a2, a3⟩ := p_chan ht hd hk (S := xup S 1 (t * 10 + (2 + d * 2 + k)) (zbp (3 * t) (2 + d * 2 + k))) (h.of (xup_q _ _ _ (by decide)) (xup_q _ _ _ (by decide)) (xup_q _ _ _ (by decide)))
    obtain ⟨S2, i1, i2, i3⟩ := ih n (k + 1) S1 a2 (by rw [show 2 + d * 2 + (k + 1) = 2 + d * 2 + k + 1 by omega]; exact hp1.of a3) (by omega) (by omega) (by omega)
    refine ⟨S2, ?_, i2, i3⟩
    unfold m_X1_laySwitches_L24
    rw [ew, xbs, a1, xbs]
    simp (disch := omega) only [xr, xck_t, xck_T, if_pos, if_neg, if_true, if_false, xbs, or_true, true_or, and_true, true_and]
    exact i1
theorem p_dirs {t : Int} (ht : 0 ≤ t ∧ t < 16) : ∀ (e n : Nat) (d : Int) (S : xS), zIv ((8 * t + 2 * d) * 4) S → zIp t (2 + d * 2) S → 0 ≤ d → d + e = 4 → e < n → ∃ S1, m_X1_laySwitches_L17 t n d S = some S1 ∧ zIv (8 * (t + 1) * 4) S1 ∧ zIp t 10 S1 := by
  intro e
  induction e with
  | zero =>
    intro n d S h hp h0 h1 h2
    obtain ⟨n, rfl⟩ : ∃ j, n = j + 1 := ⟨n - 1, by omega⟩
    obtain rfl : d = 4 := by omega
    refine ⟨S, ?_, ?_, hp⟩
    · unfold m_X1_laySwitches_L17
      simp (disch := omega) only [xr, xck_t, xck_T, if_pos, if_neg, if_true, if_false, xbs, or_true, true_or, and_true, true_and]
    · rw [show 8 * (t + 1) * 4 = (8 * t + 2 * 4) * 4 by omega]
      exact h
  | succ e ih =>
    intro n d S h hp h0 h1 h2
    obtain ⟨n, rfl⟩ : ∃ j, n = j + 1 := ⟨n - 1, by omega⟩
    obtain ⟨S1, a1, a2, a3⟩ := p_track ht (d := d) ⟨h0, by omega⟩ 2 2000 0 S (by rw [Int.add_zero]; exact h) (by rw [Int.add_zero]; exact hp) (by omega) (by omega) (by omega)
    obtain ⟨S2, i1, i2, i3⟩ := ih n (d + 1) S1 a2 a3 (by omega) (by omega) (by omega)
    refine ⟨S2, ?_, i2, i3⟩
    unfold m_X1_laySwitches_L17
    rw [a1]
    simp (disch := omega) only [xr, xck_t, xck_T, if_pos, if_neg, if_true, if_false, xbs, or_true, true_or, and_true, true_and]
    exact i1
theorem p_tiles : ∀ (e n : Nat) (t : Int) (S : xS), zIv (8 * t * 4) S → zIp t 1 S → 0 ≤ t → t + e = 16 → e < n → ∃ S1, m_X1_init_L58 n t S = some S1 ∧ zIv 512 S1 ∧ zIp 16 1 S1 := by
  intro e
  induction e with
  | zero =>
    intro n t S h hp h0 h1 h2
    obtain ⟨n, rfl⟩ : ∃ j, n = j + 1 := ⟨n - 1, by omega⟩
    obtain rfl : t = 16 := by omega
    refine ⟨S, ?_, h, hp⟩
    unfold m_X1_init_L58
    simp (disch := omega) only [xr, xck_t, xck_T, if_pos, if_neg, if_true, if_false, xbs, or_true, true_or, and_true, true_and]
  | succ e ih =>
    intro n t S h hp h0 h1 h2
    obtain ⟨n, rfl⟩ : ∃ j, n = j + 1 := ⟨n - 1, by omega⟩
    have ht : 0 ≤ t ∧ t < 16 := by omega
    have b := (zp1_all t.toNat (by omega)).1
    rw [show ((3 * t.toNat : Nat) : Int) = 3 * t by omega, show ((t.toNat * 9 : Nat) : Int) = t * 9 by omega] at b
    have hp1 := hp.up ht ⟨by omega, by omega⟩ b.symm
    obtain ⟨S1, a1, a2, a3⟩ := p_dirs ht 4 2000 0 (xup S 1 (t * 10 + 1) (t * 9)) (by
      rw [show (8 * t + 2 * 0) * 4 = 8 * t * 4 by omega]
      exact h.of (xup_q _ _ _ (by decide)) (xup_q _ _ _ (by decide)) (xup_q _ _ _ (by decide))) hp1 (by omega) (by omega) (by omega)
    obtain ⟨S2, i1, i2, i3⟩ := ih n (t + 1) S1 a2 ⟨fun u x u0 u1 x0 x1 hx => a3.1 u x u0 u1 x0 x1 (by omega), a3.2⟩ (by omega) (by omega) (by omega)
    refine ⟨S2, ?_, i2, i3⟩
    unfold m_X1_init_L58
    have el : m_X1_laySwitches t S = some S1 := by
      unfold m_X1_laySwitches m_X1_outletOf
      rw [xbs, a1, xbs]
      simp (disch := omega) only [xr, xck_t, xck_T, if_pos, if_neg, if_true, if_false, xbs, or_true, true_or, and_true, true_and]
    rw [el]
    simp (disch := omega) only [xr, xck_t, xck_T, if_pos, if_neg, if_true, if_false, xbs, or_true, true_or, and_true, true_and]
    exact i1
theorem p_fabric : ∃ SF, m_X1_init = some SF ∧ zFB SF ∧ zFA SF := by
  obtain ⟨S1, a1, a2, a3⟩ := p_tiles 16 2000 0 (xfl (xfl xS0 0 720 (-1)) 1 160 (-1)) (by
    refine ⟨fun i i0 i1 => by omega, fun c c0 c1 => ?_, fun w w0 w1 => ?_, fun i i0 i1 => by omega⟩
    · rw [xfl_q _ _ _ (by decide : (0 : Nat) ≠ 1)]
      exact if_pos ⟨rfl, by omega, by omega⟩
    · rw [xfl_q _ _ _ (by decide : (3 : Nat) ≠ 1), xfl_q _ _ _ (by decide : (3 : Nat) ≠ 0)]
      rfl) (by
    refine ⟨fun u x u0 u1 x0 x1 hx => by omega, fun u u0 u1 => ?_⟩
    exact if_pos ⟨rfl, by omega, by omega⟩) (by omega) (by omega) (by omega)
  obtain ⟨b0, b1, b2, b3⟩ := a2
  refine ⟨S1, ?_, ⟨fun c s c0 c1 s0 s1 => ?_, fun p s p0 p1 s0 s1 => ?_⟩, ⟨fun w w0 w1 => ?_, fun w n w0 w1 n0 n1 => ?_, fun v s v0 s0 s1 s2 => ?_⟩⟩
  · unfold m_X1_init
    rw [a1, xbs]
  · by_cases q : s = 0
    · rw [q, Int.add_zero, b1 c c0 c1]
      have := (zb1_all c.toNat (by omega)).2
      rw [Int.toNat_of_nonneg c0] at this
      exact this.symm
    · have e := b0 (c * 4 + (s - 1)) (by omega) (by omega)
      unfold zsw zst at e
      rw [show (c * 4 + (s - 1)) / 4 = c by omega, show (c * 4 + (s - 1)) % 4 + 1 = s by omega] at e
      exact e
  · have e := zp_all p.toNat (by omega) s.toNat (by omega)
    rw [show ((3 * (p.toNat / 3) : Nat) : Int) = 3 * (p / 3) by omega, Int.toNat_of_nonneg p0, Int.toNat_of_nonneg s0] at e
    rw [e]
    by_cases q : s = 0
    · rw [q, Int.add_zero, a3.2 (p / 3) (by omega) (by omega)]
      have z := (zp1_all (p / 3).toNat (by omega)).2
      rw [show ((3 * (p / 3).toNat : Nat) : Int) = 3 * (p / 3) by omega] at z
      exact z.symm
    · exact a3.1 (p / 3) s (by omega) (by omega) (by omega) (by omega) (by omega)
  · rw [b2 w w0 w1]
    exact zct_8 ⟨w0, w1⟩ (by omega)
  · rw [b2 w w0 w1] at n1
    have hf : ∀ m : Nat, n < zct w m → m ≤ 512 → ∃ i, (0 ≤ i ∧ i < (m : Int)) ∧ zst i = w ∧ zct w i = n := by
      intro m
      induction m with
      | zero =>
        intro hm _
        have : zct w ((0 : Nat) : Int) = 0 := rfl
        omega
      | succ m ih =>
        intro hm hm2
        have es := zct_s w (j := m) (by omega)
        rw [show ((m + 1 : Nat) : Int) = (m : Int) + 1 by omega, es] at hm
        by_cases c : n < zct w m
        · obtain ⟨i, i0, i1⟩ := ih c (by omega)
          exact ⟨i, by omega, i1⟩
        · by_cases d : zst m = w
          · rw [zi_t d] at hm
            exact ⟨m, by omega, d, by omega⟩
          · rw [zi_f d] at hm
            omega
    obtain ⟨i, i0, i1, i2⟩ := hf 512 n1 (by omega)
    have e := b3 i i0.1 (by omega) (by rw [i1]; exact w0)
    rw [i1, i2] at e
    rw [e]
    have hw := zwi_ch (c := i / 4) ⟨by omega, by omega⟩
    refine ⟨hw.1, i % 4 + 1, by omega, by omega, ?_⟩
    show zbc (zch (9 * (i / 4 / 8) + 1 + i / 4 % 8)) (i % 4 + 1) = w
    rw [hw.2]
    exact i1
  · have hc := zch_in v0
    have e4 : zst (zch v * 4 + (s - 1)) = zbc (zch v) s := by
      unfold zst
      rw [show (zch v * 4 + (s - 1)) / 4 = zch v by omega, show (zch v * 4 + (s - 1)) % 4 + 1 = s by omega]
    have e5 : zsw (zch v * 4 + (s - 1)) = v := by
      unfold zsw
      rw [show (zch v * 4 + (s - 1)) / 4 = zch v by omega]
      exact hc.2
    have hu := zbc_in hc.1 ⟨s0, s1⟩
    have e := b3 (zch v * 4 + (s - 1)) (by omega) (by omega) (by rw [e4]; exact s2)
    rw [e4, e5] at e
    refine ⟨zct (zbc (zch v) s) (zch v * 4 + (s - 1)), ?_, ?_, e⟩
    · exact (zct_8 ⟨s2, hu⟩ ⟨by omega, by omega⟩).1
    · rw [b2 _ s2 hu]
      have := zct_lt (i := zch v * 4 + (s - 1)) (j := 512) (by omega) (by omega) e4
      omega
