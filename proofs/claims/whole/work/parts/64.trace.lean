/-! following the wires back -/
def zbc (c s : Int) : Int := (m_X9_behindChannel c s).getD (-1)
def zbp (p s : Int) : Int := (m_X9_behindPin p s).getD (-1)
def zch (w : Int) : Int := 8 * (w / 9) + w % 9 - 1
def zisch (w : Int) : Prop := (0 ≤ w ∧ w < 144) ∧ ¬ w % 9 = 0
theorem zbc_all : ∀ c, c < 128 → ∀ s, s < 5 → m_X9_behindChannel (c : Nat) (s : Nat) = some (zbc (c : Nat) (s : Nat)) ∧ -1 ≤ zbc (c : Nat) (s : Nat) ∧ zbc (c : Nat) (s : Nat) < 148 := by decide +kernel
theorem zbp_all : ∀ c, c < 48 → ∀ s, s < 10 → m_X9_behindPin (c : Nat) (s : Nat) = some (zbp (c : Nat) (s : Nat)) ∧ -1 ≤ zbp (c : Nat) (s : Nat) ∧ zbp (c : Nat) (s : Nat) < 148 := by decide +kernel
theorem zbc_of {c s : Int} (hc : 0 ≤ c ∧ c < 128) (hs : 0 ≤ s ∧ s < 5) : m_X9_behindChannel c s = some (zbc c s) ∧ -1 ≤ zbc c s ∧ zbc c s < 148 := by
  have h := zbc_all c.toNat (by omega) s.toNat (by omega)
  rw [Int.toNat_of_nonneg hc.1, Int.toNat_of_nonneg hs.1] at h
  exact h
theorem zbp_of {c s : Int} (hc : 0 ≤ c ∧ c < 48) (hs : 0 ≤ s ∧ s < 10) : m_X9_behindPin c s = some (zbp c s) ∧ -1 ≤ zbp c s ∧ zbp c s < 148 := by
  have h := zbp_all c.toNat (by omega) s.toNat (by omega)
  rw [Int.toNat_of_nonneg hc.1, Int.toNat_of_nonneg hs.1] at h
  exact h
/-- the tables of the fabric, as the class has them -/
def zFB (S : xS) : Prop := (∀ c s, 0 ≤ c → c < 128 → 0 ≤ s → s < 5 → S 0 ((9 * (c / 8) + 1 + c % 8) * 5 + s) = zbc c s) ∧ (∀ p s, 0 ≤ p → p < 48 → 0 ≤ s → s < 10 → S 1 (p / 3 * 10 + s) = zbp p s)
theorem p_isCh {w : Int} (hw : -1 ≤ w ∧ w < 148) : (zisch w ∧ m_X1_isChannel w = some 1) ∨ (¬ zisch w ∧ m_X1_isChannel w = some 0) := by
  unfold zisch m_X1_isChannel
  by_cases a : w < 0
  · right
    exact ⟨by omega, by simp (disch := omega) only [xr, xck_t, xck_T, if_pos, if_neg, if_true, if_false, xbs, or_true, true_or, and_true, true_and]⟩
  · by_cases b : 144 ≤ w
    · right
      exact ⟨by omega, by simp (disch := omega) only [xr, xck_t, xck_T, if_pos, if_neg, if_true, if_false, xbs, or_true, true_or, and_true, true_and]⟩
    · by_cases c : w % 9 = 0
      · right
        exact ⟨by omega, by simp (disch := omega) only [xr, xck_t, xck_T, if_pos, if_neg, if_true, if_false, xbs, or_true, true_or, and_true, true_and]⟩
      · left
        exact ⟨by omega, by simp (disch := omega) only [xr, xck_t, xck_T, if_pos, if_neg, if_true, if_false, xbs, or_true, true_or, and_true, true_and]⟩
theorem p_chOf {w : Int} (hw : -1 ≤ w ∧ w < 148) (h0 : 0 ≤ w) : (zisch w ∧ m_X9_channelOf w = some (zch w) ∧ 0 ≤ zch w ∧ zch w < 128 ∧ w = 9 * (zch w / 8) + 1 + zch w % 8) ∨ (¬ zisch w ∧ m_X9_channelOf w = some (-1)) := by
  unfold zisch m_X9_channelOf zch
  by_cases b : 144 ≤ w
  · right
    exact ⟨by omega, by simp (disch := omega) only [xr, xck_t, xck_T, if_pos, if_neg, if_true, if_false, xbs, or_true, true_or, and_true, true_and]⟩
  · by_cases c : w % 9 = 0
    · right
      exact ⟨by omega, by simp (disch := omega) only [xr, xck_t, xck_T, if_pos, if_neg, if_true, if_false, xbs, or_true, true_or, and_true, true_and]⟩
    · left
      exact ⟨by omega, by simp (disch := omega) only [xr, xck_t, xck_T, if_pos, if_neg, if_true, if_false, xbs, or_true, true_or, and_true, true_and], by omega, by omega, by omega⟩
/-- n steps back from the wire w with the switches f: where, and over how many channels -/
def zgo (f : Int → Int) : Nat → Int → Int × Int
  | 0, w => (w, 0)
  | n + 1, w => if (0 ≤ w ∧ w < 144) ∧ ¬ w % 9 = 0 then ((zgo f n (zbc (zch w) (f (zch w)))).1, (zgo f n (zbc (zch w) (f (zch w)))).2 + 1) else (w, 0)
def zor (f : Int → Int) (w : Int) : Int :=
  if (0 ≤ (zgo f 128 w).1 ∧ (zgo f 128 w).1 < 144) ∧ ¬ (zgo f 128 w).1 % 9 = 0 then -2 else if (zgo f 128 w).1 < 0 then -1 else if (zgo f 128 w).1 < 144 then (zgo f 128 w).1 / 9 else (zgo f 128 w).1 - 128
def zlen (f : Int → Int) (w : Int) : Int := if zor f w < 0 then 0 else (zgo f 128 w).2
theorem zgo_in (f : Int → Int) (hf : ∀ c, 0 ≤ c → c < 128 → 0 ≤ f c ∧ f c ≤ 4) : ∀ (n : Nat) (w : Int), -1 ≤ w → w < 148 → (-1 ≤ (zgo f n w).1 ∧ (zgo f n w).1 < 148) ∧ 0 ≤ (zgo f n w).2 ∧ (zgo f n w).2 ≤ n := by
  intro n
  induction n with
  | zero =>
    intro w h0 h1
    unfold zgo
    exact ⟨⟨h0, h1⟩, by omega, by omega⟩
  | succ n ih =>
    intro w h0 h1
    unfold zgo
    by_cases c : (0 ≤ w ∧ w < 144) ∧ ¬ w % 9 = 0
    · rw [if_pos c]
      have hc : 0 ≤ zch w ∧ zch w < 128 := by
        unfold zch
        omega
      have h2 := (zbc_of hc ⟨(hf _ hc.1 hc.2).1, by have := (hf _ hc.1 hc.2).2; omega⟩).2
      have i := ih _ h2.1 h2.2
      exact ⟨i.1, by omega, by omega⟩
    · rw [if_neg c]
      exact ⟨⟨h0, h1⟩, by omega, by omega⟩
theorem p_before {S : xS} (h : zFB S) {w s : Int} (hw : zisch w) (hs : 0 ≤ s ∧ s < 5) : m_X1_beforeChannel w s S = some (zbc (zch w) s) := by
  obtain ⟨⟨h0, h1⟩, h2⟩ := hw
  have hc : 0 ≤ zch w ∧ zch w < 128 := by
    unfold zch
    omega
  have e := h.1 (zch w) s hc.1 hc.2 hs.1 hs.2
  have e2 : 9 * (zch w / 8) + 1 + zch w % 8 = w := by
    unfold zch
    omega
  rw [e2] at e
  unfold m_X1_beforeChannel
  simp (disch := omega) only [xr, xck_t, xck_T, if_pos, if_neg, if_true, if_false, xbs, or_true, true_or, and_true, true_and]
  rw [e]
theorem p_chSet {S T : xS} (hr : zRng T) {w : Int} (hw : zisch w) (hB : S 26 (w / 9) = zenc T (w / 9)) : m_X5_channelSetting (Int64.ofInt (S 26 (w / 9))) (w % 9 - 1) = some (T 4 (zch w)) := by
  obtain ⟨⟨h0, h1⟩, h2⟩ := hw
  have ht : 0 ≤ w / 9 ∧ w / 9 < 16 := by omega
  obtain ⟨b, e0, e1, e2, p0, p1, p2, c0, c1, c2, c3, c4, c5, c6, c7⟩ := zenc_all hr ht
  have ez : zch w = 8 * (w / 9) + (w % 9 - 1) := by
    unfold zch
    omega
  rw [ez, hB]
  rcases (show w % 9 - 1 = 0 ∨ w % 9 - 1 = 1 ∨ w % 9 - 1 = 2 ∨ w % 9 - 1 = 3 ∨ w % 9 - 1 = 4 ∨ w % 9 - 1 = 5 ∨ w % 9 - 1 = 6 ∨ w % 9 - 1 = 7 by omega) with e | e | e | e | e | e | e | e <;> rw [e]
  · rw [p_chS (P := 4194304) b (by decide) rfl, c0]
  · rw [p_chS (P := 33554432) b (by decide) rfl, c1]
  · rw [p_chS (P := 268435456) b (by decide) rfl, c2]
  · rw [p_chS (P := 2147483648) b (by decide) rfl, c3]
  · rw [p_chS (P := 17179869184) b (by decide) rfl, c4]
  · rw [p_chS (P := 137438953472) b (by decide) rfl, c5]
  · rw [p_chS (P := 1099511627776) b (by decide) rfl, c6]
  · rw [p_chS (P := 8796093022208) b (by decide) rfl, c7]
/-- the class: the loop of trace -/
theorem p_traceL {S T : xS} (hf : zFB S) (hr : zRng T) (hB : ∀ t, 0 ≤ t → t < 16 → S 26 t = zenc T t) (q : Int) : ∀ (d n : Nat) (w k : Int), -1 ≤ w → w < 148 → 0 ≤ k → k + d = 128 → d < n → m_X5_trace_L5 q S n w k = some ((zgo (T 4) d w).1, k + (zgo (T 4) d w).2) := by
  intro d
  induction d with
  | zero =>
    intro n w k h0 h1 h2 h3 h4
    obtain ⟨n, rfl⟩ : ∃ j, n = j + 1 := ⟨n - 1, by omega⟩
    unfold m_X5_trace_L5 zgo
    simp (disch := omega) only [xr, xck_t, xck_T, if_pos, if_neg, if_true, if_false, xbs, or_true, true_or, and_true, true_and]
    rw [Int.add_zero]
  | succ d ih =>
    intro n w k h0 h1 h2 h3 h4
    obtain ⟨n, rfl⟩ : ∃ j, n = j + 1 := ⟨n - 1, by omega⟩
    unfold m_X5_trace_L5 zgo
    rcases p_isCh ⟨h0, h1⟩ with ⟨c, e⟩ | ⟨c, e⟩
    · have hc : 0 ≤ zch w ∧ zch w < 128 := by
        have c2 := c
        unfold zisch at c2
        unfold zch
        omega
      have h4c := hr.2.2 _ hc.1 hc.2
      have hw9 : 0 ≤ w / 9 ∧ w / 9 < 16 := by
        have c2 := c
        unfold zisch at c2
        omega
      have hw0 : 0 ≤ w := c.1.1
      have h5 := (zbc_of (s := T 4 (zch w)) hc ⟨h4c.1, by omega⟩).2
      rw [e, p_bitsOf hw9, if_pos (show (0 ≤ w ∧ w < 144) ∧ ¬ w % 9 = 0 from c)]
      simp (disch := omega) only [xr, xck_t, xck_T, if_pos, if_neg, if_true, if_false, xbs, or_true, true_or, and_true, true_and]
      rw [p_chSet hr c (hB _ hw9.1 hw9.2), xbs, p_before hf c ⟨h4c.1, by omega⟩, xbs, ih n _ (k + 1) h5.1 h5.2 (by omega) (by omega) (by omega)]
      congr 2
      omega
    · rw [e, if_neg (show ¬ ((0 ≤ w ∧ w < 144) ∧ ¬ w % 9 = 0) from c)]
      simp (disch := omega) only [xr, xck_t, xck_T, if_pos, if_neg, if_true, if_false, xbs, or_true, true_or, and_true, true_and]
      rw [Int.add_zero]
/-- sums over the first n places -/
def zsum (f : Int → Int) : Nat → Int
  | 0 => 0
  | n + 1 => zsum f n + f n
theorem zsum_up (f g : Int → Int) (i : Int) : ∀ n : Nat, 0 ≤ i → (∀ j, j ≠ i → g j = f j) → zsum g n = zsum f n + if i < n then g i - f i else 0 := by
  intro n h0 h
  induction n with
  | zero =>
    rw [if_neg (by omega)]
    rfl
  | succ n ih =>
    unfold zsum
    rw [ih]
    by_cases a : i < n
    · rw [if_pos a, if_pos (by omega), h n (by omega)]
      omega
    · by_cases b : i = n
      · subst b
        rw [if_neg (by omega), if_pos (by omega)]
        omega
      · rw [if_neg a, if_neg (by omega), h n (by omega)]
        omega
theorem zsum_le (f : Int → Int) : ∀ n : Nat, (∀ j : Int, 0 ≤ j → j < (n : Int) → 0 ≤ f j ∧ f j ≤ 1) → 0 ≤ zsum f n ∧ zsum f n ≤ n ∧ (zsum f n = n → ∀ j : Int, 0 ≤ j → j < (n : Int) → f j = 1) := by
  intro n
  induction n with
  | zero =>
    intro h
    exact ⟨by unfold zsum; omega, by unfold zsum; omega, fun _ j h0 h1 => by omega⟩
  | succ n ih =>
    intro h
    obtain ⟨i1, i2, i3⟩ := ih (fun j h0 h1 => h j h0 (by omega))
    have hn := h n (by omega) (by omega)
    unfold zsum
    refine ⟨by omega, by omega, fun e j h0 h1 => ?_⟩
    by_cases b : j = n
    · subst b
      omega
    · exact i3 (by omega) j h0 (by omega)
theorem zsum_0 (f : Int → Int) : ∀ n : Nat, (∀ j : Int, 0 ≤ j → j < (n : Int) → f j = 0) → zsum f n = 0 := by
  intro n
  induction n with
  | zero => intro _; rfl
  | succ n ih =>
    intro h
    unfold zsum
    rw [ih (fun j h0 h1 => h j h0 (by omega)), h n (by omega) (by omega)]
    rfl
/-- the model: the clearing of what was seen -/
theorem p_clear (q : Int) : ∀ (d n : Nat) (v : Int) (S : xS), 0 ≤ v → v + d = 128 → d < n → ∃ S1, m_X9_comesFrom_L2 q n v S = some S1 ∧ (∀ a, a ≠ 21 → S1 a = S a) ∧ (∀ c, 0 ≤ c → c < 128 → (v ≤ c ∨ S 21 c = 0) → S1 21 c = 0) := by
  intro d
  induction d with
  | zero =>
    intro n v S h0 h1 h2
    obtain ⟨n, rfl⟩ : ∃ j, n = j + 1 := ⟨n - 1, by omega⟩
    refine ⟨S, ?_, fun _ _ => rfl, fun c h3 h4 h5 => ?_⟩
    · unfold m_X9_comesFrom_L2
      simp (disch := omega) only [xr, xck_t, xck_T, if_pos, if_neg, if_true, if_false, xbs, or_true, true_or, and_true, true_and]
    · rcases h5 with h5 | h5
      · omega
      · exact h5
  | succ d ih =>
    intro n v S h0 h1 h2
    obtain ⟨n, rfl⟩ : ∃ j, n = j + 1 := ⟨n - 1, by omega⟩
    obtain ⟨S1, e, f, g⟩ := ih n (v + 1) (xup S 21 v 0) (by omega) (by omega) (by omega)
    refine ⟨S1, ?_, fun a ha => ?_, fun c h3 h4 h5 => ?_⟩
    · unfold m_X9_comesFrom_L2
      simp (disch := omega) only [xr, xck_t, xck_T, if_pos, if_neg, if_true, if_false, xbs, or_true, true_or, and_true, true_and]
      exact e
    · rw [f a ha, xup_q _ _ _ ha]
    · refine g c h3 h4 ?_
      by_cases b : c = v
      · subst b
        exact Or.inr (xup_s _ _ _ _)
      · rcases h5 with h5 | h5
        · exact Or.inl (by omega)
        · exact Or.inr (by rw [xup_i _ _ _ b]; exact h5)
theorem zgo_closed (f : Int → Int) (P : Int → Prop) (hP : ∀ w, P w → zisch w ∧ P (zbc (zch w) (f (zch w)))) : ∀ (d : Nat) (w : Int), P w → zisch (zgo f d w).1 := by
  intro d
  induction d with
  | zero =>
    intro w h
    exact (hP w h).1
  | succ d ih =>
    intro w h
    unfold zgo
    rw [if_pos (show (0 ≤ w ∧ w < 144) ∧ ¬ w % 9 = 0 from (hP w h).1)]
    exact ih _ (hP w h).2
/-- the model: the loop of comesFrom beside zgo -/
theorem p_comesL {T : xS} (hr : zRng T) : ∀ (d n : Nat) (w k : Int) (S : xS), -1 ≤ w → w < 148 → 0 ≤ k → k + d = 128 → d + 1 < n →
    (∀ a, a ≠ 21 → a ≠ 53 → S a = T a) → (∀ c, 0 ≤ c → c < 128 → 0 ≤ S 21 c ∧ S 21 c ≤ 1) → zsum (S 21) 128 = k → S 53 0 = k →
    (∀ c, 0 ≤ c → c < 128 → S 21 c = 1 → zbc c (T 4 c) = w ∨ (zisch (zbc c (T 4 c)) ∧ S 21 (zch (zbc c (T 4 c))) = 1)) →
    ∃ S1, (∀ a, a ≠ 21 → a ≠ 53 → S1 a = T a) ∧ ((¬ zisch (zgo (T 4) d w).1 ∧ m_X9_comesFrom_L29 n w S = some (.inl ((zgo (T 4) d w).1, S1)) ∧ S1 53 0 = k + (zgo (T 4) d w).2) ∨ (zisch (zgo (T 4) d w).1 ∧ m_X9_comesFrom_L29 n w S = some (.inr (-2, S1)))) := by
  intro d
  induction d with
  | zero =>
    intro n w k S h0 h1 h2 h3 h4 hS h21 hsum h53 hcl
    obtain ⟨n, rfl⟩ : ∃ j, n = j + 1 := ⟨n - 1, by omega⟩
    refine ⟨S, hS, ?_⟩
    unfold zgo m_X9_comesFrom_L29
    by_cases a : w < 0
    · left
      exact ⟨fun c => by have := c.1.1; omega, by simp (disch := omega) only [xr, xck_t, xck_T, if_pos, if_neg, if_true, if_false, xbs, or_true, true_or, and_true, true_and], by rw [h53, Int.add_zero]⟩
    · rcases p_chOf ⟨h0, h1⟩ (by omega) with ⟨c, e, c0, c1, c2⟩ | ⟨c, e⟩
      · right
        have hall := (zsum_le (S 21) 128 (fun j j0 j1 => h21 j j0 (by omega))).2.2 (by omega) (zch w) c0 (by omega)
        exact ⟨c, by simp (disch := omega) only [xr, xck_t, xck_T, if_pos, if_neg, if_true, if_false, xbs, or_true, true_or, and_true, true_and, e, hall]⟩
      · left
        exact ⟨c, by simp (disch := omega) only [xr, xck_t, xck_T, if_pos, if_neg, if_true, if_false, xbs, or_true, true_or, and_true, true_and, e], by rw [h53, Int.add_zero]⟩
  | succ d ih =>
    intro n w k S h0 h1 h2 h3 h4 hS h21 hsum h53 hcl
    obtain ⟨n, rfl⟩ : ∃ j, n = j + 1 := ⟨n - 1, by omega⟩
    by_cases a : w < 0
    · refine ⟨S, hS, ?_⟩
      unfold zgo m_X9_comesFrom_L29
      left
      rw [if_neg (by omega)]
      exact ⟨fun c => by have := c.1.1; omega, by simp (disch := omega) only [xr, xck_t, xck_T, if_pos, if_neg, if_true, if_false, xbs, or_true, true_or, and_true, true_and], by rw [h53, Int.add_zero]⟩
    · rcases p_chOf ⟨h0, h1⟩ (by omega) with ⟨c, e, c0, c1, c2⟩ | ⟨c, e⟩
      · by_cases hs : S 21 (zch w) = 0
        · have hS4 : S 4 = T 4 := hS 4 (by decide) (by decide)
          have h4c := hr.2.2 _ c0 c1
          have hb := zbc_of (s := T 4 (zch w)) ⟨c0, c1⟩ ⟨h4c.1, by omega⟩
          obtain ⟨S1, f1, f2⟩ := ih n (zbc (zch w) (T 4 (zch w))) (k + 1) (xup (xup S 21 (zch w) 1) 53 0 (S 53 0 + 1)) hb.2.1 hb.2.2 (by omega) (by omega) (by omega)
            (fun a ha hb => by rw [xup_q _ _ _ hb, xup_q _ _ _ ha]; exact hS a ha hb)
            (fun j j0 j1 => by
              rw [xup_q _ _ _ (by decide : (21 : Nat) ≠ 53)]
              by_cases jj : j = zch w
              · rw [jj, xup_s]
                omega
              · rw [xup_i _ _ _ jj]
                exact h21 j j0 j1)
            (by
              rw [xup_q _ _ _ (by decide : (21 : Nat) ≠ 53), zsum_up (S 21) (xup S 21 (zch w) 1 21) (zch w) 128 c0 (fun j jj => xup_i _ _ _ jj), if_pos (by omega), xup_s]
              omega)
            (by rw [xup_s]; omega)
            (fun j j0 j1 => by
              rw [xup_q _ _ _ (by decide : (21 : Nat) ≠ 53)]
              by_cases jj : j = zch w
              · subst jj
                exact fun _ => Or.inl rfl
              · rw [xup_i _ _ _ jj]
                intro hj
                right
                rcases hcl j j0 j1 hj with q | ⟨q1, q2⟩
                · rw [q]
                  exact ⟨c, xup_s _ _ _ _⟩
                · refine ⟨q1, ?_⟩
                  by_cases q3 : zch (zbc j (T 4 j)) = zch w
                  · rw [q3, xup_s]
                  · rw [xup_i _ _ _ q3]
                    exact q2)
          refine ⟨S1, f1, ?_⟩
          have em : m_X9_comesFrom_L29 (n + 1) w S = m_X9_comesFrom_L29 n (zbc (zch w) (T 4 (zch w))) (xup (xup S 21 (zch w) 1) 53 0 (S 53 0 + 1)) := by
            conv => lhs; unfold m_X9_comesFrom_L29
            simp (disch := omega) only [xr, xck_t, xck_T, if_pos, if_neg, if_true, if_false, xbs, or_true, true_or, and_true, true_and, e, hs, hS4, hb.1]
          have ez : zgo (T 4) (d + 1) w = ((zgo (T 4) d (zbc (zch w) (T 4 (zch w)))).1, (zgo (T 4) d (zbc (zch w) (T 4 (zch w)))).2 + 1) := by
            conv => lhs; unfold zgo
            exact if_pos c
          rw [em, ez]
          rcases f2 with ⟨g1, g2, g3⟩ | ⟨g1, g2⟩
          · left
            exact ⟨g1, g2, by rw [g3]; show k + 1 + _ = k + (_ + 1); omega⟩
          · right
            exact ⟨g1, g2⟩
        · refine ⟨S, hS, ?_⟩
          right
          have hs1 : S 21 (zch w) = 1 := by
            have := h21 _ c0 c1
            omega
          refine ⟨zgo_closed (T 4) (fun x => zisch x ∧ S 21 (zch x) = 1) (fun x hx => ⟨hx.1, ?_⟩) (d + 1) w ⟨c, hs1⟩, ?_⟩
          · have hx1 := hx.1
            have hx0 : 0 ≤ zch x ∧ zch x < 128 := by
              unfold zisch at hx1
              unfold zch
              omega
            rcases hcl _ hx0.1 hx0.2 hx.2 with q | q
            · rw [q]
              exact ⟨c, hs1⟩
            · exact q
          · unfold m_X9_comesFrom_L29
            simp (disch := omega) only [xr, xck_t, xck_T, if_pos, if_neg, if_true, if_false, xbs, or_true, true_or, and_true, true_and, e, hs1]
      · refine ⟨S, hS, ?_⟩
        unfold zgo m_X9_comesFrom_L29
        left
        rw [if_neg (show ¬ ((0 ≤ w ∧ w < 144) ∧ ¬ w % 9 = 0) from c)]
        exact ⟨c, by simp (disch := omega) only [xr, xck_t, xck_T, if_pos, if_neg, if_true, if_false, xbs, or_true, true_or, and_true, true_and, e], by rw [h53, Int.add_zero]⟩
theorem p_comes {T : xS} (hr : zRng T) {w : Int} (h0 : -1 ≤ w) (h1 : w < 148) : ∃ T1, m_X9_comesFrom w T = some (zor (T 4) w, T1) ∧ (∀ a, a ≠ 21 → a ≠ 53 → T1 a = T a) ∧ (0 ≤ zor (T 4) w → T1 53 0 = zlen (T 4) w) := by
  obtain ⟨S0, e0, f0, g0⟩ := p_clear w 128 2000 0 T (by omega) (by omega) (by omega)
  have hz : ∀ c, 0 ≤ c → c < 128 → xup S0 53 0 0 21 c = 0 := fun c c0 c1 => by
    rw [xup_q _ _ _ (by decide : (21 : Nat) ≠ 53)]
    exact g0 c c0 c1 (Or.inl c0)
  obtain ⟨S1, f1, f2⟩ := p_comesL hr 128 2000 w 0 (xup S0 53 0 0) h0 h1 (by omega) (by omega) (by omega)
    (fun a ha hb => by rw [xup_q _ _ _ hb, f0 a ha])
    (fun c c0 c1 => by rw [hz c c0 c1]; omega)
    (zsum_0 _ _ (fun j j0 j1 => hz j j0 (by omega)))
    (xup_s _ _ _ _)
    (fun c c0 c1 h => by rw [hz c c0 c1] at h; omega)
  have hin := zgo_in (T 4) hr.2.2 128 w h0 h1
  refine ⟨S1, ?_, f1, ?_⟩
  · unfold m_X9_comesFrom zor
    rw [e0, xbs]
    rcases f2 with ⟨g1, g2, g3⟩ | ⟨g1, g2⟩
    · rw [g2, if_neg (show ¬ ((0 ≤ (zgo (T 4) 128 w).1 ∧ (zgo (T 4) 128 w).1 < 144) ∧ ¬ (zgo (T 4) 128 w).1 % 9 = 0) from g1), xbs]
      dsimp only
      generalize (zgo (T 4) 128 w).1 = x at *
      by_cases a : x < 0
      · simp (disch := omega) only [xr, xck_t, xck_T, if_pos, if_neg, if_true, if_false, xbs, or_true, true_or, and_true, true_and]
      · by_cases b : x < 144
        · simp (disch := omega) only [xr, xck_t, xck_T, if_pos, if_neg, if_true, if_false, xbs, or_true, true_or, and_true, true_and]
        · simp (disch := omega) only [xr, xck_t, xck_T, if_pos, if_neg, if_true, if_false, xbs, or_true, true_or, and_true, true_and]
    · rw [g2, if_pos (show (0 ≤ (zgo (T 4) 128 w).1 ∧ (zgo (T 4) 128 w).1 < 144) ∧ ¬ (zgo (T 4) 128 w).1 % 9 = 0 from g1), xbs]
  · intro h
    rcases f2 with ⟨g1, g2, g3⟩ | ⟨g1, g2⟩
    · unfold zlen
      rw [if_neg (by omega), g3, Int.zero_add]
    · unfold zor at h
      rw [if_pos (show (0 ≤ (zgo (T 4) 128 w).1 ∧ (zgo (T 4) 128 w).1 < 144) ∧ ¬ (zgo (T 4) 128 w).1 % 9 = 0 from g1)] at h
      omega
theorem zor_in {T : xS} (hr : zRng T) {w : Int} (h0 : -1 ≤ w) (h1 : w < 148) : (-2 ≤ zor (T 4) w ∧ zor (T 4) w ≤ 19) ∧ 0 ≤ zlen (T 4) w ∧ zlen (T 4) w ≤ 128 := by
  have hin := zgo_in (T 4) hr.2.2 128 w h0 h1
  have a : -2 ≤ zor (T 4) w ∧ zor (T 4) w ≤ 19 := by
    unfold zor
    generalize (zgo (T 4) 128 w).1 = x at *
    by_cases a : (0 ≤ x ∧ x < 144) ∧ ¬ x % 9 = 0
    · rw [if_pos a]
      omega
    · rw [if_neg a]
      by_cases b : x < 0
      · rw [if_pos b]
        omega
      · rw [if_neg b]
        by_cases c : x < 144
        · rw [if_pos c]
          omega
        · rw [if_neg c]
          omega
  refine ⟨a, ?_⟩
  unfold zlen
  by_cases b : zor (T 4) w < 0
  · rw [if_pos b]
    omega
  · rw [if_neg b]
    omega
theorem p_trace {S T : xS} (hf : zFB S) (hr : zRng T) (hB : ∀ t, 0 ≤ t → t < 16 → S 26 t = zenc T t) {q w : Int} (hq : 0 ≤ q ∧ q < 52) (h0 : -1 ≤ w) (h1 : w < 148) : m_X5_trace q w S = some (xup (xup S 29 q (zor (T 4) w)) 30 q (zlen (T 4) w)) := by
  have hin := zgo_in (T 4) hr.2.2 128 w h0 h1
  have ho := zor_in hr h0 h1
  have eo : m_X5_originAt (zgo (T 4) 128 w).1 = some (zor (T 4) w) := by
    unfold m_X5_originAt zor
    rcases p_isCh hin.1 with ⟨c, e⟩ | ⟨c, e⟩
    · have hx : ¬ (zgo (T 4) 128 w).1 = -1 := by
        have := c.1.1
        omega
      rw [e, if_pos (show (0 ≤ (zgo (T 4) 128 w).1 ∧ (zgo (T 4) 128 w).1 < 144) ∧ ¬ (zgo (T 4) 128 w).1 % 9 = 0 from c)]
      simp (disch := omega) only [xr, xck_t, xck_T, if_pos, if_neg, if_true, if_false, xbs, or_true, true_or, and_true, true_and]
    · rw [e, if_neg (show ¬ ((0 ≤ (zgo (T 4) 128 w).1 ∧ (zgo (T 4) 128 w).1 < 144) ∧ ¬ (zgo (T 4) 128 w).1 % 9 = 0) from c)]
      generalize (zgo (T 4) 128 w).1 = x at *
      by_cases a : x = -1
      · simp (disch := omega) only [xr, xck_t, xck_T, if_pos, if_neg, if_true, if_false, xbs, or_true, true_or, and_true, true_and]
      · by_cases b : x < 144
        · simp (disch := omega) only [xr, xck_t, xck_T, if_pos, if_neg, if_true, if_false, xbs, or_true, true_or, and_true, true_and]
        · simp (disch := omega) only [xr, xck_t, xck_T, if_pos, if_neg, if_true, if_false, xbs, or_true, true_or, and_true, true_and]
          congr 1
          omega
  unfold m_X5_trace
  rw [p_traceL hf hr hB q 128 2000 w 0 h0 h1 (by omega) (by omega) (by omega), xbs, eo, xbs, xup_s, Int.zero_add]
  by_cases a : 0 ≤ zor (T 4) w
  · have e : zlen (T 4) w = (zgo (T 4) 128 w).2 := by
      unfold zlen
      rw [if_neg (by omega)]
    rw [e]
    simp (disch := omega) only [xr, xck_t, xck_T, if_pos, if_neg, if_true, if_false, xbs, or_true, true_or, and_true, true_and]
  · have e : zlen (T 4) w = 0 := by
      unfold zlen
      rw [if_pos (by omega)]
    rw [e]
    simp (disch := omega) only [xr, xck_t, xck_T, if_pos, if_neg, if_true, if_false, xbs, or_true, true_or, and_true, true_and]
