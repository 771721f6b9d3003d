/-! routing: distances; the model's sweeps -/
theorem zch_in {v : Int} (h : zisch v) : (0 ≤ zch v ∧ zch v < 128) ∧ 9 * (zch v / 8) + 1 + zch v % 8 = v := by
  unfold zisch at h
  unfold zch
  omega
theorem zwi_ch {c : Int} (h : 0 ≤ c ∧ c < 128) : zisch (9 * (c / 8) + 1 + c % 8) ∧ zch (9 * (c / 8) + 1 + c % 8) = c := by
  unfold zisch zch
  omega
theorem zisch_in {v : Int} (h : zisch v) : 0 ≤ v ∧ v < 148 := by
  unfold zisch at h
  omega
theorem zbc_in {c s : Int} (hc : 0 ≤ c ∧ c < 128) (hs : 1 ≤ s ∧ s ≤ 4) : zbc c s < 148 := (zbc_of hc ⟨by omega, by omega⟩).2.2
def zDr (K : Int) (D : Int → Int) : Prop := ∀ w, 0 ≤ w → w < 148 → 0 ≤ D w ∧ D w ≤ K
def zDt (tr D : Int → Int) : Prop := ∀ w, 0 ≤ w → w < 148 → tr w = 1 → D w = 0
def zDw (K : Int) (tr pr D : Int → Int) : Prop := ∀ w, 0 ≤ w → w < 148 → tr w ≠ 1 → D w < K → zisch w ∧ ∃ s, (1 ≤ s ∧ s ≤ 4) ∧ 0 ≤ zbc (zch w) s ∧ D (zbc (zch w) s) + pr w ≤ D w
def zDs (pr D : Int → Int) : Prop := ∀ v s, zisch v → 1 ≤ s → s ≤ 4 → 0 ≤ zbc (zch v) s → D v ≤ D (zbc (zch v) s) + pr v
def zPr (pr : Int → Int) : Prop := ∀ w, 0 ≤ w → w < 148 → 1 ≤ pr w ∧ pr w ≤ 1000
theorem zcmp {K KB : Int} {tr pr A B : Int → Int} (hp : zPr pr) (hAt : zDt tr A) (hAs : zDs pr A) (hBr : zDr K B) (hBw : zDw KB tr pr B) : ∀ (m : Nat) (w : Int), 0 ≤ w → w < 148 → B w < m → B w < KB → A w ≤ B w := by
  intro m
  induction m with
  | zero =>
    intro w h0 h1 h2 h3
    have := (hBr w h0 h1).1
    omega
  | succ m ih =>
    intro w h0 h1 h2 h3
    by_cases c : tr w = 1
    · rw [hAt w h0 h1 c]
      exact (hBr w h0 h1).1
    · obtain ⟨e1, s, s1, s2, s3⟩ := hBw w h0 h1 c h3
      have p := hp w h0 h1
      have hu := zbc_in (zch_in e1).1 s1
      have i := ih _ s2 hu (by omega) (by omega)
      have j := hAs w s e1 s1.1 s1.2 s2
      omega
theorem zbnd {K : Int} {tr pr D : Int → Int} (hp : zPr pr) (hr : zDr K D) (ht : zDt tr D) (hw : zDw K tr pr D) (hs : zDs pr D) : ∀ (m : Nat) (w : Int), 0 ≤ w → w < 148 → D w < m → D w < K → D w ≤ 1000 * zsum (fun u => zi (D u < D w)) 148 := by
  intro m
  induction m with
  | zero =>
    intro w h0 h1 h2 h3
    have := (hr w h0 h1).1
    omega
  | succ m ih =>
    intro w h0 h1 h2 h3
    by_cases c : tr w = 1
    · have := (zsum_le (fun u => zi (D u < D w)) 148 (fun j _ _ => zi_01 _)).1
      rw [ht w h0 h1 c] at this ⊢
      omega
    · obtain ⟨e1, s, s1, s2, s3⟩ := hw w h0 h1 c h3
      have p := hp w h0 h1
      have hu := zbc_in (zch_in e1).1 s1
      have i := ih _ s2 hu (by omega) (by omega)
      have j := hs w s e1 s1.1 s1.2 s2
      have l := zsum_lt (fun u => zi (D u < D (zbc (zch w) s))) (fun u => zi (D u < D w)) (zbc (zch w) s) 148 (fun x _ _ => by
        by_cases q : D x < D (zbc (zch w) s)
        · simp only [zi_t q, zi_t (show D x < D w by omega)]
          omega
        · simp only [zi_f q]
          exact (zi_01 _).1) s2 hu (by
        simp only [zi_f (Int.lt_irrefl (D (zbc (zch w) s))), zi_t (show D (zbc (zch w) s) < D w by omega)]
        omega)
      omega
/-- the model's distances -/
def zMd (tr pr M : Int → Int) : Prop := zDr 1000000 M ∧ zDt tr M ∧ zDw 1000000 tr pr M ∧ zDs pr M
theorem zMd.le {tr pr M : Int → Int} (hp : zPr pr) (h : zMd tr pr M) {w : Int} (h0 : 0 ≤ w) (h1 : w < 148) (h2 : M w < 1000000) : M w ≤ 148000 := by
  have a := zbnd hp h.1 h.2.1 h.2.2.1 h.2.2.2 1000000 w h0 h1 (by omega) h2
  have b := (zsum_le (fun u => zi (M u < M w)) 148 (fun j _ _ => zi_01 _)).2.1
  omega
theorem zfin {K KB : Int} {tr pr M B : Int → Int} (hp : zPr pr) (hM : zMd tr pr M) (hBr : zDr K B) (hBw : zDw KB tr pr B) : ∀ (m : Nat) (w : Int), 0 ≤ w → w < 148 → B w < m → B w < KB → M w < 1000000 := by
  intro m
  induction m with
  | zero =>
    intro w h0 h1 h2 h3
    have := (hBr w h0 h1).1
    omega
  | succ m ih =>
    intro w h0 h1 h2 h3
    by_cases c : tr w = 1
    · rw [hM.2.1 w h0 h1 c]
      omega
    · obtain ⟨e1, s, s1, s2, s3⟩ := hBw w h0 h1 c h3
      have p := hp w h0 h1
      have hu := zbc_in (zch_in e1).1 s1
      have i := ih _ s2 hu (by omega) (by omega)
      have l := hM.le hp s2 hu i
      have j := hM.2.2.2 w s e1 s1.1 s1.2 s2
      omega
/-- the class's distances and the model's -/
def zEq (D M : Int → Int) : Prop := ∀ w, 0 ≤ w → w < 148 → (D w = M w ∧ M w < 1000000) ∨ (D w = 1048576 ∧ M w = 1000000)
theorem zeq_of {tr pr M D : Int → Int} (hp : zPr pr) (hM : zMd tr pr M) (hr : zDr 1048576 D) (ht : zDt tr D) (hw : zDw 1048576 tr pr D) (hs : zDs pr D) : zEq D M := by
  intro w h0 h1
  have a := hr w h0 h1
  have b := hM.1 w h0 h1
  by_cases c : D w < 1048576
  · have f := zfin hp hM hr hw 1048576 w h0 h1 (by omega) c
    have g := zcmp hp hM.2.1 hM.2.2.2 hr hw 1048576 w h0 h1 (by omega) c
    have i := zcmp hp ht hs hM.1 hM.2.2.1 1048576 w h0 h1 (by omega) f
    left
    omega
  · right
    refine ⟨by omega, ?_⟩
    by_cases d : M w < 1000000
    · have i := zcmp hp ht hs hM.1 hM.2.2.1 1048576 w h0 h1 (by omega) d
      omega
    · omega
theorem p_price {T : xS} {w : Int} (hw : 0 ≤ w ∧ w < 148) (h : T 17 w = 0 ∨ T 17 w = 1) : m_X9_price w T = some (if T 17 w = 0 then 1 + 3 * T 15 w + T 16 w else 0) := by
  unfold m_X9_price
  rcases h with h | h
  · simp (disch := omega) only [xr, xck_t, xck_T, if_pos, if_neg, if_true, if_false, xbs, or_true, true_or, and_true, true_and, h]
  · simp (disch := omega) only [xr, xck_t, xck_T, if_pos, if_neg, if_true, if_false, xbs, or_true, true_or, and_true, true_and, h]
theorem p_leastL {T : xS} (hr : zDr 1000000 (T 18)) {c : Int} (hc : 0 ≤ c ∧ c < 128) : ∀ (d n : Nat) (s b : Int), 1 ≤ s → s + d = 5 → d < n → (0 ≤ b ∧ b ≤ 1000000) → ∃ r, m_X9_leastBehind_L5 c T n b s = some r ∧ (0 ≤ r ∧ r ≤ b) ∧ (∀ x, s ≤ x → x ≤ 4 → 0 ≤ zbc c x → r ≤ T 18 (zbc c x)) ∧ (r = b ∨ ∃ x, (s ≤ x ∧ x ≤ 4) ∧ 0 ≤ zbc c x ∧ r = T 18 (zbc c x)) := by
  intro d
  induction d with
  | zero =>
    intro n s b h0 h1 h2 hb
    obtain ⟨n, rfl⟩ : ∃ j, n = j + 1 := ⟨n - 1, by omega⟩
    refine ⟨b, ?_, ⟨by omega, by omega⟩, fun x x0 x1 => by omega, Or.inl rfl⟩
    unfold m_X9_leastBehind_L5
    simp (disch := omega) only [xr, xck_t, xck_T, if_pos, if_neg, if_true, if_false, xbs, or_true, true_or, and_true, true_and]
  | succ d ih =>
    intro n s b h0 h1 h2 hb
    obtain ⟨n, rfl⟩ : ∃ j, n = j + 1 := ⟨n - 1, by omega⟩
    obtain ⟨e1, e2, e3⟩ := zbc_of (c := c) (s := s) hc ⟨by omega, by omega⟩
    unfold m_X9_leastBehind_L5
    rw [e1, xbs]
    by_cases a : zbc c s < 0
    · obtain ⟨r, i1, i2, i3, i4⟩ := ih n (s + 1) b (by omega) (by omega) (by omega) hb
      refine ⟨r, ?_, i2, fun x x0 x1 x2 => ?_, ?_⟩
      · simp (disch := omega) only [xr, xck_t, xck_T, if_pos, if_neg, if_true, if_false, xbs, or_true, true_or, and_true, true_and]
        exact i1
      · by_cases q : x = s
        · rw [q] at x2
          omega
        · exact i3 x (by omega) x1 x2
      · rcases i4 with i4 | ⟨x, x1, x2, x3⟩
        · exact Or.inl i4
        · exact Or.inr ⟨x, by omega, x2, x3⟩
    · have g := hr _ (show 0 ≤ zbc c s by omega) e3
      by_cases q : b ≤ T 18 (zbc c s)
      · obtain ⟨r, i1, i2, i3, i4⟩ := ih n (s + 1) b (by omega) (by omega) (by omega) hb
        refine ⟨r, ?_, i2, fun x x0 x1 x2 => ?_, ?_⟩
        · simp (disch := omega) only [xr, xck_t, xck_T, if_pos, if_neg, if_true, if_false, xbs, or_true, true_or, and_true, true_and]
          exact i1
        · by_cases q2 : x = s
          · rw [q2]
            omega
          · exact i3 x (by omega) x1 x2
        · rcases i4 with i4 | ⟨x, x1, x2, x3⟩
          · exact Or.inl i4
          · exact Or.inr ⟨x, by omega, x2, x3⟩
      · obtain ⟨r, i1, i2, i3, i4⟩ := ih n (s + 1) (T 18 (zbc c s)) (by omega) (by omega) (by omega) (by omega)
        refine ⟨r, ?_, by omega, fun x x0 x1 x2 => ?_, ?_⟩
        · simp (disch := omega) only [xr, xck_t, xck_T, if_pos, if_neg, if_true, if_false, xbs, or_true, true_or, and_true, true_and]
          exact i1
        · by_cases q2 : x = s
          · rw [q2]
            omega
          · exact i3 x (by omega) x1 x2
        · right
          rcases i4 with i4 | ⟨x, x1, x2, x3⟩
          · exact ⟨s, by omega, by omega, i4⟩
          · exact ⟨x, by omega, x2, x3⟩
theorem p_rel2 : ∀ (d n : Nat) (v : Int) (T : xS), (∀ w, 0 ≤ w → w < 148 → T 17 w = 0 ∨ T 17 w = 1) → 0 ≤ v → v + d = 148 → d < n → ∃ T1, m_X9_relax_L2 n v T = some T1 ∧ (∀ q, q ≠ 18 → T1 q = T q) ∧ (∀ w, w < v → T1 18 w = T 18 w) ∧ (∀ w, v ≤ w → w < 148 → T1 18 w = if T 17 w = 0 then 1000000 else 0) := by
  intro d
  induction d with
  | zero =>
    intro n v T ht h0 h1 h2
    obtain ⟨n, rfl⟩ : ∃ j, n = j + 1 := ⟨n - 1, by omega⟩
    refine ⟨T, ?_, fun _ _ => rfl, fun _ _ => rfl, fun w w0 w1 => by omega⟩
    unfold m_X9_relax_L2
    simp (disch := omega) only [xr, xck_t, xck_T, if_pos, if_neg, if_true, if_false, xbs, or_true, true_or, and_true, true_and]
  | succ d ih =>
    intro n v T ht h0 h1 h2
    obtain ⟨n, rfl⟩ : ∃ j, n = j + 1 := ⟨n - 1, by omega⟩
    have tv := ht v h0 (by omega)
    have ev : xck (xr (T 17 v)) (if T 17 v = 0 then some (1000000 : Int) else some 0) = some (if T 17 v = 0 then 1000000 else 0) := by
      rcases tv with q | q <;> rw [q] <;> simp (disch := omega) only [xr, xck_t, xck_T, if_pos, if_neg, if_true, if_false, xbs, or_true, true_or, and_true, true_and]
    obtain ⟨T1, i1, i2, i3, i4⟩ := ih n (v + 1) (xup T 18 v (if T 17 v = 0 then 1000000 else 0)) (by rw [xup_q _ _ _ (by decide : (17 : Nat) ≠ 18)]; exact ht) (by omega) (by omega) (by omega)
    rw [xup_q _ _ _ (by decide : (17 : Nat) ≠ 18)] at i4
    refine ⟨T1, ?_, fun q hq => by rw [i2 q hq, xup_q _ _ _ hq], fun w hw => by rw [i3 w (by omega), xup_i _ _ _ (by omega)], fun w w0 w1 => ?_⟩
    · unfold m_X9_relax_L2
      rw [ev]
      simp (disch := omega) only [xr, xck_t, xck_T, if_pos, if_neg, if_true, if_false, xbs, or_true, true_or, and_true, true_and]
      exact i1
    · by_cases q : w = v
      · rw [q, i3 v (by omega), xup_s]
      · exact i4 w (by omega) w1
/-- what holds while the model sweeps -/
def zSwp (pr : Int → Int) (S : xS) : Prop := zDr 1000000 (S 18) ∧ zDt (S 17) (S 18) ∧ zDw 1000000 (S 17) pr (S 18) ∧ (∀ w, 0 ≤ w → w < 148 → (S 17 w = 0 ∨ S 17 w = 1) ∧ pr w = 1 + 3 * S 15 w + S 16 w)
theorem p_swp (pr : Int → Int) (hp : zPr pr) : ∀ (d n : Nat) (c any : Int) (S : xS), zSwp pr S → 0 ≤ c → c + d = 128 → d < n →
    ∃ any1 S1, m_X9_relax_L46 n any c S = some (any1, S1) ∧ zSwp pr S1 ∧ (∀ q, q ≠ 18 → S1 q = S q) ∧ ((any1 = any ∧ S1 = S ∧ ∀ x s, c ≤ x → x < 128 → 1 ≤ s → s ≤ 4 → 0 ≤ zbc x s → S 18 (9 * (x / 8) + 1 + x % 8) ≤ S 18 (zbc x s) + pr (9 * (x / 8) + 1 + x % 8)) ∨ (any1 = 1 ∧ zsum (S1 18) 148 + 1 ≤ zsum (S 18) 148)) := by
  intro d
  induction d with
  | zero =>
    intro n c any S h h0 h1 h2
    obtain ⟨n, rfl⟩ : ∃ j, n = j + 1 := ⟨n - 1, by omega⟩
    refine ⟨any, S, ?_, h, fun _ _ => rfl, Or.inl ⟨rfl, rfl, fun x s x0 x1 => by omega⟩⟩
    unfold m_X9_relax_L46
    simp (disch := omega) only [xr, xck_t, xck_T, if_pos, if_neg, if_true, if_false, xbs, or_true, true_or, and_true, true_and]
  | succ d ih =>
    intro n c any S h h0 h1 h2
    obtain ⟨n, rfl⟩ : ∃ j, n = j + 1 := ⟨n - 1, by omega⟩
    obtain ⟨hr, ht, hw, htp⟩ := id h
    obtain ⟨b, b1, b2, b3, b4⟩ := p_leastL hr (c := c) ⟨h0, by omega⟩ 4 2000 1 1000000 (by omega) (by omega) (by omega) (by omega)
    have eb : m_X9_leastBehind c S = some b := by
      unfold m_X9_leastBehind
      rw [b1, xbs]
    have ew : m_X9_wireOf c = some (9 * (c / 8) + 1 + c % 8) := by
      unfold m_X9_wireOf
      simp (disch := omega) only [xr, xck_t, xck_T, if_pos, if_neg, if_true, if_false, xbs, or_true, true_or, and_true, true_and]
    obtain ⟨wc1, wc2⟩ := zwi_ch (c := c) ⟨h0, by omega⟩
    have wc3 := zisch_in wc1
    generalize hwd : 9 * (c / 8) + 1 + c % 8 = w at *
    obtain ⟨t1, t2⟩ := htp w wc3.1 wc3.2
    have ep := p_price (T := S) wc3 t1
    have pw := hp w wc3.1 wc3.2
    have rw' := hr w wc3.1 wc3.2
    have ep2 : m_X9_price w S = some (if S 17 w = 0 then pr w else 0) := by rw [ep, t2]
    have hpx : 0 ≤ (if S 17 w = 0 then pr w else 0) ∧ (if S 17 w = 0 then pr w else 0) ≤ 1000 := by
      by_cases q : S 17 w = 0
      · rw [if_pos q]; omega
      · rw [if_neg q]; omega
    generalize hx : (if S 17 w = 0 then pr w else 0) = x at *
    by_cases q : S 18 w ≤ b + x
    · have stab : ∀ s, 1 ≤ s → s ≤ 4 → 0 ≤ zbc c s → S 18 w ≤ S 18 (zbc c s) + pr w := fun s s0 s1 s2 => by
        have l := b3 s s0 s1 s2
        rcases t1 with z | z
        · rw [if_pos z] at hx
          omega
        · rw [ht w wc3.1 wc3.2 z]
          have := (hr _ s2 (zbc_in ⟨h0, by omega⟩ ⟨s0, s1⟩)).1
          omega
      obtain ⟨any1, S1, i1, i2, i3, i4⟩ := ih n (c + 1) any S h (by omega) (by omega) (by omega)
      refine ⟨any1, S1, ?_, i2, i3, ?_⟩
      · unfold m_X9_relax_L46
        rw [ew, xbs, eb, xbs, ep2, xbs]
        simp (disch := omega) only [xr, xck_t, xck_T, if_pos, if_neg, if_true, if_false, xbs, or_true, true_or, and_true, true_and]
        exact i1
      · rcases i4 with ⟨j1, j2, j3⟩ | j
        · left
          refine ⟨j1, j2, fun y s y0 y1 s0 s1 s2 => ?_⟩
          by_cases e : y = c
          · rw [e] at s2 ⊢
            rw [hwd]
            exact stab s s0 s1 s2
          · exact j3 y s (by omega) y1 s0 s1 s2
        · exact Or.inr j
    · have z : S 17 w = 0 := by
        rcases t1 with z | z
        · exact z
        · have := ht w wc3.1 wc3.2 z
          omega
      have hbx : x = pr w := by rw [← hx, if_pos z]
      obtain ⟨s, s1, s2, s3⟩ : ∃ s, (1 ≤ s ∧ s ≤ 4) ∧ 0 ≤ zbc c s ∧ b = S 18 (zbc c s) := by
        rcases b4 with e | e
        · omega
        · exact e
      have hu := zbc_in (c := c) (s := s) ⟨h0, by omega⟩ s1
      have une : zbc c s ≠ w := fun e => by
        rw [e] at s3
        omega
      have h' : zSwp pr (xup S 18 w (b + x)) := by
        unfold zSwp
        rw [xup_q _ _ _ (by decide : (17 : Nat) ≠ 18), xup_q _ _ _ (by decide : (15 : Nat) ≠ 18), xup_q _ _ _ (by decide : (16 : Nat) ≠ 18)]
        refine ⟨fun y y0 y1 => ?_, fun y y0 y1 yt => ?_, fun y y0 y1 yt yk => ?_, htp⟩
        · by_cases e : y = w
          · rw [e, xup_s]
            omega
          · rw [xup_i _ _ _ e]
            exact hr y y0 y1
        · by_cases e : y = w
          · rw [e, z] at yt
            omega
          · rw [xup_i _ _ _ e]
            exact ht y y0 y1 yt
        · by_cases e : y = w
          · rw [e, wc2, xup_s]
            refine ⟨wc1, s, s1, s2, ?_⟩
            rw [xup_i _ _ _ une]
            omega
          · rw [xup_i _ _ _ e] at yk ⊢
            obtain ⟨k1, k, k2, k3, k4⟩ := hw y y0 y1 yt yk
            refine ⟨k1, k, k2, k3, ?_⟩
            by_cases e2 : zbc (zch y) k = w
            · rw [e2, xup_s]
              rw [e2] at k4
              omega
            · rw [xup_i _ _ _ e2]
              exact k4
      obtain ⟨any1, S1, i1, i2, i3, i4⟩ := ih n (c + 1) 1 (xup S 18 w (b + x)) h' (by omega) (by omega) (by omega)
      have su := zsum_up (S 18) (xup S 18 w (b + x) 18) w 148 wc3.1 (fun j hj => xup_i _ _ _ hj)
      rw [if_pos (by omega), xup_s] at su
      refine ⟨any1, S1, ?_, i2, fun y hy => by rw [i3 y hy, xup_q _ _ _ hy], ?_⟩
      · unfold m_X9_relax_L46
        rw [ew, xbs, eb, xbs, ep2, xbs]
        simp (disch := omega) only [xr, xck_t, xck_T, if_pos, if_neg, if_true, if_false, xbs, or_true, true_or, and_true, true_and]
        exact i1
      · right
        rcases i4 with ⟨j1, j2, j3⟩ | ⟨j1, j2⟩
        · rw [j1, j2]
          exact ⟨rfl, by omega⟩
        · exact ⟨j1, by omega⟩
theorem p_rel38 (pr : Int → Int) (hp : zPr pr) : ∀ (N n : Nat) (S : xS), zSwp pr S → zsum (S 18) 148 ≤ N → N + 1 < n →
    ∃ S1, m_X9_relax_L38 n 1 S = some S1 ∧ zSwp pr S1 ∧ (∀ q, q ≠ 18 → S1 q = S q) ∧ zDs pr (S1 18) := by
  intro N
  induction N with
  | zero =>
    intro n S h hs hn
    obtain ⟨n, rfl⟩ : ∃ j, n = j + 1 := ⟨n - 1, by omega⟩
    obtain ⟨n, rfl⟩ : ∃ j, n = j + 1 := ⟨n - 1, by omega⟩
    obtain ⟨any1, S1, i1, i2, i3, i4⟩ := p_swp pr hp 128 2000 0 0 S h (by omega) (by omega) (by omega)
    have hnn : 0 ≤ zsum (S1 18) 148 := by
      have := zsum_mono (fun _ => 0) (S1 18) 148 (fun j j0 j1 => (i2.1 j j0 (by omega)).1)
      rw [zsum_0 (fun _ => 0) 148 (fun _ _ _ => rfl)] at this
      exact this
    rcases i4 with ⟨rfl, rfl, j3⟩ | ⟨j1, j2⟩
    · refine ⟨S1, ?_, h, fun _ _ => rfl, fun v s v0 s0 s1 s2 => ?_⟩
      · unfold m_X9_relax_L38
        rw [i1]
        simp (disch := omega) only [xr, xck_t, xck_T, if_pos, if_neg, if_true, if_false, xbs, or_true, true_or, and_true, true_and]
        unfold m_X9_relax_L38
        simp (disch := omega) only [xr, xck_t, xck_T, if_pos, if_neg, if_true, if_false, xbs, or_true, true_or, and_true, true_and]
      · have hv := zch_in v0
        have := j3 (zch v) s hv.1.1 hv.1.2 s0 s1 s2
        rw [hv.2] at this
        exact this
    · omega
  | succ N ih =>
    intro n S h hs hn
    obtain ⟨n, rfl⟩ : ∃ j, n = j + 1 := ⟨n - 1, by omega⟩
    obtain ⟨any1, S1, i1, i2, i3, i4⟩ := p_swp pr hp 128 2000 0 0 S h (by omega) (by omega) (by omega)
    rcases i4 with ⟨rfl, rfl, j3⟩ | ⟨rfl, j2⟩
    · refine ⟨S1, ?_, h, fun _ _ => rfl, fun v s v0 s0 s1 s2 => ?_⟩
      · obtain ⟨n, rfl⟩ : ∃ j, n = j + 1 := ⟨n - 1, by omega⟩
        unfold m_X9_relax_L38
        rw [i1]
        simp (disch := omega) only [xr, xck_t, xck_T, if_pos, if_neg, if_true, if_false, xbs, or_true, true_or, and_true, true_and]
        unfold m_X9_relax_L38
        simp (disch := omega) only [xr, xck_t, xck_T, if_pos, if_neg, if_true, if_false, xbs, or_true, true_or, and_true, true_and]
      · have hv := zch_in v0
        have := j3 (zch v) s hv.1.1 hv.1.2 s0 s1 s2
        rw [hv.2] at this
        exact this
    · obtain ⟨S2, k1, k2, k3, k4⟩ := ih n S1 i2 (by omega) (by omega)
      refine ⟨S2, ?_, k2, fun q hq => by rw [k3 q hq, i3 q hq], k4⟩
      unfold m_X9_relax_L38
      rw [i1]
      simp (disch := omega) only [xr, xck_t, xck_T, if_pos, if_neg, if_true, if_false, xbs, or_true, true_or, and_true, true_and]
      exact k1
theorem p_relax {T : xS} (pr : Int → Int) (hp : zPr pr) (h : ∀ w, 0 ≤ w → w < 148 → (T 17 w = 0 ∨ T 17 w = 1) ∧ pr w = 1 + 3 * T 15 w + T 16 w) : ∃ T1, m_X9_relax T = some T1 ∧ (∀ q, q ≠ 18 → T1 q = T q) ∧ zMd (T 17) pr (T1 18) := by
  obtain ⟨T1, a1, a2, a3, a4⟩ := p_rel2 148 2000 0 T (fun w w0 w1 => (h w w0 w1).1) (by omega) (by omega) (by omega)
  have hs : zSwp pr T1 := by
    unfold zSwp
    rw [a2 17 (by decide), a2 15 (by decide), a2 16 (by decide)]
    refine ⟨fun w w0 w1 => ?_, fun w w0 w1 wt => ?_, fun w w0 w1 wt wk => ?_, h⟩
    · rw [a4 w w0 w1]
      by_cases q : T 17 w = 0
      · rw [if_pos q]; omega
      · rw [if_neg q]; omega
    · rw [a4 w w0 w1, if_neg (by omega)]
    · have := (h w w0 w1).1
      rw [a4 w w0 w1, if_pos (by omega)] at wk
      omega
  have hsum : zsum (T1 18) 148 ≤ 148000000 := by
    have := zsum_mono (T1 18) (fun _ => 1000000) 148 (fun j j0 j1 => (hs.1 j j0 (by omega)).2)
    have e : zsum (fun _ => 1000000) 148 = 148000000 := by decide +kernel
    omega
  obtain ⟨T2, b1, b2, b3, b4⟩ := p_rel38 pr hp 148000000 1099511627776 T1 hs hsum (by omega)
  refine ⟨T2, ?_, fun q hq => by rw [b3 q hq, a2 q hq], ?_⟩
  · unfold m_X9_relax
    rw [a1, xbs, b1, xbs]
  · unfold zSwp at b2
    rw [b3 17 (by decide), a2 17 (by decide)] at b2
    exact ⟨b2.1, b2.2.1, b2.2.2.1, b4⟩
