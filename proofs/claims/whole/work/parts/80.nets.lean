/-! counts; the nets as the class gathers them -/
def zi (P : Prop) [Decidable P] : Int := if P then 1 else 0
theorem zi_t {P : Prop} [Decidable P] (h : P) : zi P = 1 := if_pos h
theorem zi_f {P : Prop} [Decidable P] (h : ¬ P) : zi P = 0 := if_neg h
theorem zi_01 (P : Prop) [Decidable P] : 0 ≤ zi P ∧ zi P ≤ 1 := by
  by_cases h : P
  · rw [zi_t h]; omega
  · rw [zi_f h]; omega
theorem zsum_s (g : Int → Int) {v : Int} (h : 0 ≤ v) : zsum g (v + 1).toNat = zsum g v.toNat + g v := by
  obtain ⟨n, rfl⟩ : ∃ n : Nat, v = n := ⟨v.toNat, by omega⟩
  rw [show ((n : Int) + 1).toNat = n + 1 by omega, Int.toNat_natCast]
  rfl
theorem zsum_add (f g : Int → Int) : ∀ n : Nat, zsum (fun j => f j + g j) n = zsum f n + zsum g n := by
  intro n
  induction n with
  | zero => rfl
  | succ n ih =>
    show zsum (fun j => f j + g j) n + (f n + g n) = (zsum f n + f n) + (zsum g n + g n)
    rw [ih]
    omega
theorem zsum_congr (f g : Int → Int) : ∀ n : Nat, (∀ j : Int, 0 ≤ j → j < (n : Int) → f j = g j) → zsum f n = zsum g n := by
  intro n
  induction n with
  | zero => intro _; rfl
  | succ n ih =>
    intro h
    show zsum f n + f n = zsum g n + g n
    rw [ih (fun j h0 h1 => h j h0 (by omega)), h n (by omega) (by omega)]
theorem zsum_mono (f g : Int → Int) : ∀ n : Nat, (∀ j : Int, 0 ≤ j → j < (n : Int) → f j ≤ g j) → zsum f n ≤ zsum g n := by
  intro n
  induction n with
  | zero => intro _; exact Int.le_refl _
  | succ n ih =>
    intro h
    show zsum f n + f n ≤ zsum g n + g n
    have := ih (fun j h0 h1 => h j h0 (by omega))
    have := h n (by omega) (by omega)
    omega
theorem zsum_lt (f g : Int → Int) (i : Int) : ∀ n : Nat, (∀ j : Int, 0 ≤ j → j < (n : Int) → f j ≤ g j) → 0 ≤ i → i < n → f i + 1 ≤ g i → zsum f n + 1 ≤ zsum g n := by
  intro n
  induction n with
  | zero => intro _ h0 h1; omega
  | succ n ih =>
    intro h h0 h1 h2
    show zsum f n + f n + 1 ≤ zsum g n + g n
    have h3 := h n (by omega) (by omega)
    by_cases e : i = n
    · have := zsum_mono f g n (fun j h0 h1 => h j h0 (by omega))
      rw [e] at h2
      omega
    · have := ih (fun j h0 h1 => h j h0 (by omega)) h0 (by omega) h2
      omega
/-- how many sinks before k have the source p; how many of all have a source below p -/
def zcn (F : Int → Int) (p k : Int) : Int := zsum (fun j => zi (F j = p)) k.toNat
def zbs (F : Int → Int) (p : Int) : Int := zsum (fun j => zi (0 ≤ F j ∧ F j < p)) 34
theorem zcn_s (F : Int → Int) (p : Int) {k : Int} (h : 0 ≤ k) : zcn F p (k + 1) = zcn F p k + zi (F k = p) := zsum_s _ h
theorem zcn_0 (F : Int → Int) (p : Int) : zcn F p 0 = 0 := rfl
theorem zcn_mono (F : Int → Int) (p : Int) : ∀ (d : Nat) (k : Int), 0 ≤ k → zcn F p k ≤ zcn F p (k + d) := by
  intro d
  induction d with
  | zero => intro k _; rw [show k + ((0 : Nat) : Int) = k by omega]; exact Int.le_refl _
  | succ d ih =>
    intro k h
    have i := ih k h
    rw [show k + ((d + 1 : Nat) : Int) = (k + d) + 1 by omega, zcn_s F p (by omega)]
    have := zi_01 (F (k + d) = p)
    omega
theorem zcn_le (F : Int → Int) (p : Int) {k m : Int} (h : 0 ≤ k) (h1 : k ≤ m) : zcn F p k ≤ zcn F p m := by
  have := zcn_mono F p (m - k).toNat k h
  rw [show k + (((m - k).toNat : Nat) : Int) = m by omega] at this
  exact this
theorem zcn_nn (F : Int → Int) (p : Int) {k : Int} (h : 0 ≤ k) : 0 ≤ zcn F p k := by
  have := zcn_le F p (Int.le_refl 0) h
  rw [zcn_0] at this
  exact this
theorem zcn_hit (F : Int → Int) (p : Int) {k m : Int} (h : 0 ≤ k) (h1 : k < m) (e : F k = p) : zcn F p k + 1 ≤ zcn F p m := by
  have := zcn_le F p (k := k + 1) (m := m) (by omega) (by omega)
  rw [zcn_s F p h, zi_t e] at this
  exact this
theorem zcn_same (F : Int → Int) (p : Int) : ∀ (d : Nat) (k : Int), 0 ≤ k → (∀ j, k ≤ j → j < k + d → F j ≠ p) → zcn F p (k + d) = zcn F p k := by
  intro d
  induction d with
  | zero => intro k _ _; rw [show k + ((0 : Nat) : Int) = k by omega]
  | succ d ih =>
    intro k h h1
    rw [show k + ((d + 1 : Nat) : Int) = (k + d) + 1 by omega, zcn_s F p (by omega), zi_f (h1 (k + d) (by omega) (by omega)), ih k h (fun j j0 j1 => h1 j j0 (by omega))]
    omega
theorem zbs_s (F : Int → Int) {p : Int} (hp : 0 ≤ p) : zbs F (p + 1) = zbs F p + zcn F p 34 := by
  unfold zbs zcn
  rw [show (34 : Int).toNat = 34 from rfl, ← zsum_add]
  refine zsum_congr _ _ 34 (fun j _ _ => ?_)
  by_cases a : F j = p
  · rw [zi_t (show 0 ≤ F j ∧ F j < p + 1 by omega), zi_f (show ¬ (0 ≤ F j ∧ F j < p) by omega), zi_t a]
    rfl
  · by_cases b : 0 ≤ F j ∧ F j < p
    · rw [zi_t (show 0 ≤ F j ∧ F j < p + 1 by omega), zi_t b, zi_f a]
      rfl
    · rw [zi_f (show ¬ (0 ≤ F j ∧ F j < p + 1) by omega), zi_f b, zi_f a]
      rfl
theorem zbs_0 (F : Int → Int) : zbs F 0 = 0 := zsum_0 _ 34 (fun j _ _ => zi_f (by omega))
theorem zbs_le (F : Int → Int) (p : Int) : 0 ≤ zbs F p ∧ zbs F p ≤ 34 := by
  have := zsum_le (fun j => zi (0 ≤ F j ∧ F j < p)) 34 (fun j _ _ => zi_01 _)
  unfold zbs
  omega
theorem zcap (F : Int → Int) {p k : Int} (hp : 0 ≤ p) (h0 : 0 ≤ k) (h1 : k ≤ 34) : zbs F p + zcn F p k ≤ 34 ∧ ∀ j, k ≤ j → j < 34 → F j = p → zbs F p + zcn F p k < 34 := by
  have e := zbs_s F hp
  have l := zbs_le F (p + 1)
  have m := zcn_le F p h0 h1
  refine ⟨by omega, fun j j0 j1 e1 => ?_⟩
  have a := zcn_le F p h0 j0
  have b := zcn_hit F p (k := j) (m := 34) (by omega) j1 e1
  omega
/-- the nets gathered -/
def zNet (S : xS) : Prop := (∀ p, 0 ≤ p → p ≤ 14 → S 13 p = zbs (S 8) p) ∧ (∀ p k, 0 ≤ p → p < 14 → 0 ≤ k → k < 34 → S 8 k = p → S 14 (zbs (S 8) p + zcn (S 8) p k) = k)
theorem zNet.of {S S1 : xS} (h : zNet S) (e8 : S1 8 = S 8) (e13 : S1 13 = S 13) (e14 : S1 14 = S 14) : zNet S1 := by
  unfold zNet at h ⊢
  rw [e8, e13, e14]
  exact h
theorem p_sourceOf {S : xS} {k : Int} (h : 0 ≤ k ∧ k < 34) : m_X0_sourceOf k S = some (S 8 k) := by
  unfold m_X0_sourceOf
  simp (disch := omega) only [xr, xck_t, xck_T, if_pos, if_neg, if_true, if_false, xbs, or_true, true_or, and_true, true_and]
theorem p_gat1 (F : Int → Int) (hF : ∀ k, 0 ≤ k → k < 34 → xr (F k)) {p : Int} (hp : 0 ≤ p ∧ p < 14) : ∀ (d n : Nat) (v : Int) (S : xS), S 8 = F → 0 ≤ v → v + d = 34 → d < n →
    ∃ S1, m_X2_gather_L20 p n (zbs F p + zcn F p v) v S = some (zbs F p + zcn F p 34, S1) ∧ (∀ q, q ≠ 14 → S1 q = S q) ∧ (∀ i, i < zbs F p + zcn F p v → S1 14 i = S 14 i) ∧ (∀ k, v ≤ k → k < 34 → F k = p → S1 14 (zbs F p + zcn F p k) = k) := by
  intro d
  induction d with
  | zero =>
    intro n v S e8 h0 h1 h2
    obtain ⟨n, rfl⟩ : ∃ j, n = j + 1 := ⟨n - 1, by omega⟩
    obtain rfl : v = 34 := by omega
    refine ⟨S, ?_, fun _ _ => rfl, fun _ _ => rfl, fun k k0 k1 => by omega⟩
    unfold m_X2_gather_L20
    simp (disch := omega) only [xr, xck_t, xck_T, if_pos, if_neg, if_true, if_false, xbs, or_true, true_or, and_true, true_and]
  | succ d ih =>
    intro n v S e8 h0 h1 h2
    obtain ⟨n, rfl⟩ : ∃ j, n = j + 1 := ⟨n - 1, by omega⟩
    have hc := zcap F hp.1 h0 (show v ≤ 34 by omega)
    have hb := zbs_le F p
    have hz := zcn_nn F p h0
    have hv := hF v h0 (by omega)
    unfold m_X2_gather_L20
    rw [p_sourceOf ⟨h0, by omega⟩, e8, xbs]
    by_cases c : 34 ≤ zbs F p + zcn F p v
    · have hn : ∀ j, v ≤ j → j < 34 → F j ≠ p := fun j j0 j1 e => by
        have := hc.2 j j0 j1 e
        omega
      have es := zcn_same F p (34 - v).toNat v h0 (fun j j0 j1 => hn j j0 (by omega))
      rw [show v + (((34 - v).toNat : Nat) : Int) = 34 by omega] at es
      refine ⟨S, ?_, fun _ _ => rfl, fun _ _ => rfl, fun k k0 k1 e => absurd e (hn k k0 k1)⟩
      rw [es]
      simp (disch := omega) only [xr, xck_t, xck_T, if_pos, if_neg, if_true, if_false, xbs, or_true, true_or, and_true, true_and]
    · by_cases e : F v = p
      · obtain ⟨S1, i1, i2, i3, i4⟩ := ih n (v + 1) (xup S 14 (zbs F p + zcn F p v) v) (by rw [xup_q _ _ _ (by decide : (8 : Nat) ≠ 14)]; exact e8) (by omega) (by omega) (by omega)
        rw [zcn_s F p h0, zi_t e] at i1 i3
        refine ⟨S1, ?_, fun q hq => by rw [i2 q hq, xup_q _ _ _ hq], fun i hi => ?_, fun k k0 k1 ek => ?_⟩
        · simp (disch := omega) only [xr, xck_t, xck_T, if_pos, if_neg, if_true, if_false, xbs, or_true, true_or, and_true, true_and]
          rw [show zbs F p + zcn F p v + 1 = zbs F p + (zcn F p v + 1) by omega]
          exact i1
        · rw [i3 i (by omega), xup_i _ _ _ (by omega)]
        · by_cases ev : k = v
          · subst ev
            rw [i3 _ (by omega), xup_s]
          · exact i4 k (by omega) k1 ek
      · obtain ⟨S1, i1, i2, i3, i4⟩ := ih n (v + 1) S e8 (by omega) (by omega) (by omega)
        rw [zcn_s F p h0, zi_f e, Int.add_zero] at i1 i3
        refine ⟨S1, ?_, i2, i3, fun k k0 k1 ek => ?_⟩
        · simp (disch := omega) only [xr, xck_t, xck_T, if_pos, if_neg, if_true, if_false, xbs, or_true, true_or, and_true, true_and]
          exact i1
        · by_cases ev : k = v
          · subst ev
            exact absurd ek e
          · exact i4 k (by omega) k1 ek
theorem p_gat2 (F : Int → Int) (hF : ∀ k, 0 ≤ k → k < 34 → xr (F k)) : ∀ (d n : Nat) (v : Int) (S : xS), S 8 = F → 0 ≤ v → v + d = 14 → d < n →
    ∃ S1, m_X2_gather_L4 n (zbs F v) v S = some (zbs F 14, S1) ∧ (∀ q, q ≠ 13 → q ≠ 14 → S1 q = S q) ∧ (∀ i, i < v → S1 13 i = S 13 i) ∧ (∀ p, v ≤ p → p < 14 → S1 13 p = zbs F p) ∧ (∀ i, i < zbs F v → S1 14 i = S 14 i) ∧ (∀ p k, v ≤ p → p < 14 → 0 ≤ k → k < 34 → F k = p → S1 14 (zbs F p + zcn F p k) = k) := by
  intro d
  induction d with
  | zero =>
    intro n v S e8 h0 h1 h2
    obtain ⟨n, rfl⟩ : ∃ j, n = j + 1 := ⟨n - 1, by omega⟩
    obtain rfl : v = 14 := by omega
    refine ⟨S, ?_, fun _ _ _ => rfl, fun _ _ => rfl, fun p p0 p1 => by omega, fun _ _ => rfl, fun p k p0 p1 => by omega⟩
    unfold m_X2_gather_L4
    simp (disch := omega) only [xr, xck_t, xck_T, if_pos, if_neg, if_true, if_false, xbs, or_true, true_or, and_true, true_and]
  | succ d ih =>
    intro n v S e8 h0 h1 h2
    obtain ⟨n, rfl⟩ : ∃ j, n = j + 1 := ⟨n - 1, by omega⟩
    obtain ⟨S1, a1, a2, a3, a4⟩ := p_gat1 F hF (p := v) ⟨h0, by omega⟩ 34 2000 0 (xup S 13 v (zbs F v)) (by rw [xup_q _ _ _ (by decide : (8 : Nat) ≠ 13)]; exact e8) (by omega) (by omega) (by omega)
    rw [zcn_0, Int.add_zero] at a1 a3
    rw [← zbs_s F h0] at a1
    obtain ⟨S2, i1, i2, i3, i4, i5, i6⟩ := ih n (v + 1) S1 (by rw [a2 8 (by decide), xup_q _ _ _ (by decide : (8 : Nat) ≠ 13)]; exact e8) (by omega) (by omega) (by omega)
    have hz := zcn_nn F v (k := 34) (by omega)
    have es := zbs_s F h0
    refine ⟨S2, ?_, fun q q1 q2 => by rw [i2 q q1 q2, a2 q q2, xup_q _ _ _ q1], fun i hi => ?_, fun p p0 p1 => ?_, fun i hi => ?_, fun p k p0 p1 k0 k1 e => ?_⟩
    · unfold m_X2_gather_L4
      simp (disch := omega) only [xr, xck_t, xck_T, if_pos, if_neg, if_true, if_false, xbs, or_true, true_or, and_true, true_and, a1]
      exact i1
    · rw [i3 i (by omega), a2 13 (by decide), xup_i _ _ _ (by omega)]
    · by_cases e : p = v
      · subst e
        rw [i3 p (by omega), a2 13 (by decide), xup_s]
      · exact i4 p (by omega) p1
    · rw [i5 i (by omega), a3 i hi, xup_q _ _ _ (by decide : (14 : Nat) ≠ 13)]
    · by_cases ev : p = v
      · subst ev
        have hk := zcn_hit F p (k := k) (m := 34) k0 k1 e
        rw [i5 _ (by omega)]
        exact a4 k k0 k1 e
      · exact i6 p k (by omega) p1 k0 k1 e
theorem p_gather {S : xS} (hF : ∀ k, 0 ≤ k → k < 34 → xr (S 8 k)) : ∃ S1, m_X2_gather S = some S1 ∧ (∀ q, q ≠ 13 → q ≠ 14 → S1 q = S q) ∧ zNet S1 := by
  obtain ⟨S1, a1, a2, a3, a4, a5, a6⟩ := p_gat2 (S 8) hF 14 2000 0 S rfl (by omega) (by omega) (by omega)
  rw [zbs_0] at a1
  refine ⟨xup S1 13 14 (zbs (S 8) 14), ?_, fun q q1 q2 => by rw [xup_q _ _ _ q1, a2 q q1 q2], ?_, ?_⟩
  · unfold m_X2_gather
    rw [a1, xbs]
  · rw [xup_q _ _ _ (by decide : (8 : Nat) ≠ 13), a2 8 (by decide) (by decide)]
    intro p p0 p1
    by_cases e : p = 14
    · subst e
      exact xup_s _ _ _ _
    · rw [xup_i _ _ _ e]
      exact a4 p p0 (by omega)
  · rw [xup_q _ _ _ (by decide : (8 : Nat) ≠ 13), a2 8 (by decide) (by decide), xup_q _ _ _ (by decide : (14 : Nat) ≠ 13)]
    exact fun p k p0 p1 k0 k1 e => a6 p k p0 p1 k0 k1 e
theorem p_sinksOf {S : xS} (h : zNet S) {p : Int} (hp : 0 ≤ p ∧ p < 14) : m_X2_sinksOf p S = some (zcn (S 8) p 34) := by
  unfold m_X2_sinksOf
  have e := zbs_s (S 8) hp.1
  rw [h.1 p hp.1 (by omega), h.1 (p + 1) (by omega) (by omega)]
  simp (disch := omega) only [xr, xck_t, xck_T, if_pos, if_neg, if_true, if_false, xbs, or_true, true_or, and_true, true_and]
  congr 1
  omega
theorem p_sinkAt {S : xS} (h : zNet S) {p k : Int} (hp : 0 ≤ p ∧ p < 14) (hk : 0 ≤ k ∧ k < 34) (e : S 8 k = p) : m_X2_sinkAt p (zcn (S 8) p k) S = some k := by
  unfold m_X2_sinkAt
  have e1 := zbs_s (S 8) hp.1
  have e2 := zcn_hit (S 8) p hk.1 hk.2 e
  have e3 := zcn_nn (S 8) p hk.1
  have e4 := zbs_le (S 8) (p + 1)
  have e5 := zbs_le (S 8) p
  rw [h.1 p hp.1 (by omega), h.1 (p + 1) (by omega) (by omega), h.2 p k hp.1 hp.2 hk.1 hk.2 e]
  simp (disch := omega) only [xr, xck_t, xck_T, if_pos, if_neg, if_true, if_false, xbs, or_true, true_or, and_true, true_and]
theorem p_hasL {T : xS} {F : Int → Int} (hF : ∀ k, 0 ≤ k → k < 34 → T 11 k = F k ∧ xr (F k)) {p : Int} (hp : 0 ≤ p ∧ p < 14) : ∀ (d n : Nat) (v a : Int), 0 ≤ v → v + d = 34 → d < n → (a = 0 ∧ zcn F p v = 0 ∨ a = 1 ∧ 0 < zcn F p v) → ∃ r, m_X9_hasSinks_L4 p T n a v = some r ∧ (r = 0 ∧ zcn F p 34 = 0 ∨ r = 1 ∧ 0 < zcn F p 34) := by
  intro d
  induction d with
  | zero =>
    intro n v a h0 h1 h2 ha
    obtain ⟨n, rfl⟩ : ∃ j, n = j + 1 := ⟨n - 1, by omega⟩
    obtain rfl : v = 34 := by omega
    refine ⟨a, ?_, ha⟩
    unfold m_X9_hasSinks_L4
    simp (disch := omega) only [xr, xck_t, xck_T, if_pos, if_neg, if_true, if_false, xbs, or_true, true_or, and_true, true_and]
  | succ d ih =>
    intro n v a h0 h1 h2 ha
    obtain ⟨n, rfl⟩ : ∃ j, n = j + 1 := ⟨n - 1, by omega⟩
    obtain ⟨f1, f2⟩ := hF v h0 (by omega)
    have es := zcn_s F p h0
    unfold m_X9_hasSinks_L4
    rw [f1]
    rcases ha with ⟨rfl, ha⟩ | ⟨rfl, ha⟩
    · by_cases e : F v = p
      · rw [zi_t e] at es
        obtain ⟨r, i1, i2⟩ := ih n (v + 1) 1 (by omega) (by omega) (by omega) (Or.inr ⟨rfl, by omega⟩)
        refine ⟨r, ?_, i2⟩
        simp (disch := omega) only [xr, xck_t, xck_T, if_pos, if_neg, if_true, if_false, xbs, or_true, true_or, and_true, true_and]
        exact i1
      · rw [zi_f e] at es
        obtain ⟨r, i1, i2⟩ := ih n (v + 1) 0 (by omega) (by omega) (by omega) (Or.inl ⟨rfl, by omega⟩)
        refine ⟨r, ?_, i2⟩
        simp (disch := omega) only [xr, xck_t, xck_T, if_pos, if_neg, if_true, if_false, xbs, or_true, true_or, and_true, true_and]
        exact i1
    · have := zi_01 (F v = p)
      obtain ⟨r, i1, i2⟩ := ih n (v + 1) 1 (by omega) (by omega) (by omega) (Or.inr ⟨rfl, by omega⟩)
      refine ⟨r, ?_, i2⟩
      simp (disch := omega) only [xr, xck_t, xck_T, if_pos, if_neg, if_true, if_false, xbs, or_true, true_or, and_true, true_and]
      exact i1
theorem p_hasSinks {T : xS} {F : Int → Int} (hF : ∀ k, 0 ≤ k → k < 34 → T 11 k = F k ∧ xr (F k)) {p : Int} (hp : 0 ≤ p ∧ p < 14) : ∃ r, m_X9_hasSinks p T = some r ∧ (r = 0 ∧ zcn F p 34 = 0 ∨ r = 1 ∧ 0 < zcn F p 34) := by
  obtain ⟨r, a1, a2⟩ := p_hasL hF hp 34 2000 0 0 (by omega) (by omega) (by omega) (Or.inl ⟨rfl, rfl⟩)
  refine ⟨r, ?_, a2⟩
  unfold m_X9_hasSinks
  rw [a1, xbs, xck_t (by omega)]
