/-! placing: exchanges, passes -/
theorem zPC.of {S T S1 T1 : xS} (h : zPC S T) (a : zfp S S1) (b : zft T T1) (c : zPz S1 T1 (S 50 0)) : zPC S1 T1 :=
  ⟨zfp.circ h.1 a b, h.2.1.of (a 8 (by decide) (by decide)) (a 13 (by decide) (by decide)) (a 14 (by decide) (by decide)), by rw [a 50 (by decide) (by decide)]; exact c⟩
/-- the model's exchange -/
def zex (a b : Int) (T : xS) : xS := fun q u => if q = 14 then (if u = b then T 14 a else if u = a then T 14 b else T 14 u) else if q = 13 then (if u = T 14 b ∧ 0 ≤ T 14 b then a else if u = T 14 a ∧ 0 ≤ T 14 a then b else T 13 u) else T q u
theorem p_ex9 {a b : Int} {T : xS} (ha : 0 ≤ a ∧ a < 16) (hb : 0 ≤ b ∧ b < 16) (ra : -1 ≤ T 14 a ∧ T 14 a < 10) (rb : -1 ≤ T 14 b ∧ T 14 b < 10) : ∃ T1, m_X9_exchange a b T = some T1 ∧ T1 = zex a b T := by
  have key : ∀ T1 : xS, (∀ q u, T1 q u = zex a b T q u) → T1 = zex a b T := fun T1 h => funext fun q => funext fun u => h q u
  unfold m_X9_exchange
  by_cases x : T 14 a < 0
  · by_cases y : T 14 b < 0
    · refine ⟨xup (xup T 14 a (T 14 b)) 14 b (T 14 a), by simp (disch := omega) only [xr, xck_t, xck_T, if_pos, if_neg, if_true, if_false, xbs, or_true, true_or, and_true, true_and], key _ (fun q u => ?_)⟩
      unfold zex
      by_cases q14 : q = 14
      · subst q14
        rw [if_pos rfl]
        by_cases ub : u = b
        · rw [if_pos ub, ub, xup_s]
        · rw [if_neg ub, xup_i _ _ _ ub]
          by_cases ua : u = a
          · rw [if_pos ua, ua, xup_s]
          · rw [if_neg ua, xup_i _ _ _ ua]
      · rw [if_neg q14, xup_q _ _ _ q14, xup_q _ _ _ q14]
        by_cases q13 : q = 13
        · rw [if_pos q13, if_neg (by omega), if_neg (by omega), q13]
        · rw [if_neg q13]
    · refine ⟨xup (xup (xup T 14 a (T 14 b)) 14 b (T 14 a)) 13 (T 14 b) a, by simp (disch := omega) only [xr, xck_t, xck_T, if_pos, if_neg, if_true, if_false, xbs, or_true, true_or, and_true, true_and], key _ (fun q u => ?_)⟩
      unfold zex
      by_cases q14 : q = 14
      · subst q14
        rw [if_pos rfl, xup_q _ _ _ (by decide : (14 : Nat) ≠ 13)]
        by_cases ub : u = b
        · rw [if_pos ub, ub, xup_s]
        · rw [if_neg ub, xup_i _ _ _ ub]
          by_cases ua : u = a
          · rw [if_pos ua, ua, xup_s]
          · rw [if_neg ua, xup_i _ _ _ ua]
      · rw [if_neg q14]
        by_cases q13 : q = 13
        · subst q13
          rw [if_pos rfl]
          by_cases u1 : u = T 14 b
          · rw [if_pos (by omega), u1, xup_s]
          · rw [if_neg (by omega), if_neg (by omega), xup_i _ _ _ u1, xup_q _ _ _ q14, xup_q _ _ _ q14]
        · rw [if_neg q13, xup_q _ _ _ q13, xup_q _ _ _ q14, xup_q _ _ _ q14]
  · by_cases y : T 14 b < 0
    · refine ⟨xup (xup (xup T 14 a (T 14 b)) 14 b (T 14 a)) 13 (T 14 a) b, by simp (disch := omega) only [xr, xck_t, xck_T, if_pos, if_neg, if_true, if_false, xbs, or_true, true_or, and_true, true_and], key _ (fun q u => ?_)⟩
      unfold zex
      by_cases q14 : q = 14
      · subst q14
        rw [if_pos rfl, xup_q _ _ _ (by decide : (14 : Nat) ≠ 13)]
        by_cases ub : u = b
        · rw [if_pos ub, ub, xup_s]
        · rw [if_neg ub, xup_i _ _ _ ub]
          by_cases ua : u = a
          · rw [if_pos ua, ua, xup_s]
          · rw [if_neg ua, xup_i _ _ _ ua]
      · rw [if_neg q14]
        by_cases q13 : q = 13
        · subst q13
          rw [if_pos rfl]
          by_cases u1 : u = T 14 a
          · rw [if_neg (by omega), if_pos (by omega), u1, xup_s]
          · rw [if_neg (by omega), if_neg (by omega), xup_i _ _ _ u1, xup_q _ _ _ q14, xup_q _ _ _ q14]
        · rw [if_neg q13, xup_q _ _ _ q13, xup_q _ _ _ q14, xup_q _ _ _ q14]
    · refine ⟨xup (xup (xup (xup T 14 a (T 14 b)) 14 b (T 14 a)) 13 (T 14 a) b) 13 (T 14 b) a, by simp (disch := omega) only [xr, xck_t, xck_T, if_pos, if_neg, if_true, if_false, xbs, or_true, true_or, and_true, true_and], key _ (fun q u => ?_)⟩
      unfold zex
      by_cases q14 : q = 14
      · subst q14
        rw [if_pos rfl, xup_q _ _ _ (by decide : (14 : Nat) ≠ 13), xup_q _ _ _ (by decide : (14 : Nat) ≠ 13)]
        by_cases ub : u = b
        · rw [if_pos ub, ub, xup_s]
        · rw [if_neg ub, xup_i _ _ _ ub]
          by_cases ua : u = a
          · rw [if_pos ua, ua, xup_s]
          · rw [if_neg ua, xup_i _ _ _ ua]
      · rw [if_neg q14]
        by_cases q13 : q = 13
        · subst q13
          rw [if_pos rfl]
          by_cases u1 : u = T 14 b
          · rw [if_pos (by omega), u1, xup_s]
          · rw [if_neg (by omega), xup_i _ _ _ u1]
            by_cases u2 : u = T 14 a
            · rw [if_pos (by omega), u2, xup_s]
            · rw [if_neg (by omega), xup_i _ _ _ u2, xup_q _ _ _ q14, xup_q _ _ _ q14]
        · rw [if_neg q13, xup_q _ _ _ q13, xup_q _ _ _ q13, xup_q _ _ _ q14, xup_q _ _ _ q14]
theorem zex_14 (a b : Int) (T : xS) (u : Int) : zex a b T 14 u = if u = b then T 14 a else if u = a then T 14 b else T 14 u := by
  unfold zex
  rw [if_pos rfl]
theorem zex_13 (a b : Int) (T : xS) (u : Int) : zex a b T 13 u = if u = T 14 b ∧ 0 ≤ T 14 b then a else if u = T 14 a ∧ 0 ≤ T 14 a then b else T 13 u := by
  unfold zex
  rw [if_neg (by decide), if_pos rfl]
theorem zft_ex (a b : Int) (T : xS) : zft T (zex a b T) := fun q h1 h2 => by
  funext u
  unfold zex
  rw [if_neg h2, if_neg h1]
/-- the class's exchange -/
def zxc (a b : Int) (S : xS) : xS := zpt (S 15 a) b (zpt (S 15 b) a S)
theorem zfp_xc (a b : Int) (S : xS) : zfp S (zxc a b S) := (zfp_pt _ _ _).tr (zfp_pt _ _ _)
theorem zxc_15 (a b : Int) (S : xS) (u : Int) : zxc a b S 15 u = if u = b then S 15 a else if u = a then S 15 b else S 15 u := by
  unfold zxc
  rw [zpt_15, zpt_15]
theorem zxc_16 (a b : Int) (S : xS) (u : Int) : zxc a b S 16 u = if u = S 15 a ∧ 0 ≤ S 15 a then b else if u = S 15 b ∧ 0 ≤ S 15 b then a else S 16 u := by
  unfold zxc
  rw [zpt_16, zpt_16]
theorem zxc_pz {S T : xS} {n a b : Int} (h : zPz S T n) (hn : n ≤ 10) (ha : 0 ≤ a ∧ a < 16) (hb : 0 ≤ b ∧ b < 16) (hab : a ≠ b) (hne : S 15 a ≠ S 15 b) : zPz (zxc a b S) (zex a b T) n := by
  obtain ⟨h1, h2⟩ := h
  obtain ⟨a1, a2, a3⟩ := h1 a ha.1 ha.2
  obtain ⟨b1, b2, b3⟩ := h1 b hb.1 hb.2
  refine ⟨fun t t0 t1 => ?_, fun c c0 c1 => ?_⟩
  · rw [zxc_15, zex_14, zxc_16]
    by_cases tb : t = b
    · rw [if_pos tb, if_pos tb]
      exact ⟨a1, a2, fun q => by rw [if_pos ⟨rfl, q⟩, tb]⟩
    · rw [if_neg tb, if_neg tb]
      by_cases ta : t = a
      · rw [if_pos ta, if_pos ta]
        exact ⟨b1, b2, fun q => by rw [if_neg (fun z => hne z.1.symm), if_pos ⟨rfl, q⟩, ta]⟩
      · rw [if_neg ta, if_neg ta]
        obtain ⟨t2, t3, t4⟩ := h1 t t0 t1
        refine ⟨t2, t3, fun q => ?_⟩
        have e := t4 q
        rw [if_neg (fun z => ta (by rw [← e, z.1]; exact a3 z.2)), if_neg (fun z => tb (by rw [← e, z.1]; exact b3 z.2))]
        exact e
  · obtain ⟨c2, c3⟩ := h2 c c0 c1
    rw [zxc_16, zex_13, ← a1, ← b1]
    by_cases ca : c = S 15 a ∧ 0 ≤ S 15 a
    · rw [if_pos ca, if_neg (fun z => hne (by rw [← ca.1, ← z.1])), if_pos ca]
      exact ⟨rfl, by omega, by omega⟩
    · rw [if_neg ca]
      by_cases cb : c = S 15 b ∧ 0 ≤ S 15 b
      · rw [if_pos cb, if_pos cb]
        exact ⟨rfl, by omega, by omega⟩
      · rw [if_neg cb, if_neg cb, if_neg ca]
        exact ⟨c2, c3⟩
theorem zxc_back {S T : xS} {n a b : Int} (h : zPz S T n) (ha : 0 ≤ a ∧ a < 16) (hb : 0 ≤ b ∧ b < 16) (hab : a ≠ b) : zxc a b (zxc a b S) = S := by
  obtain ⟨h1, h2⟩ := h
  obtain ⟨a1, a2, a3⟩ := h1 a ha.1 ha.2
  obtain ⟨b1, b2, b3⟩ := h1 b hb.1 hb.2
  have ea : zxc a b S 15 a = S 15 b := by rw [zxc_15, if_neg hab, if_pos rfl]
  have eb : zxc a b S 15 b = S 15 a := by rw [zxc_15, if_pos rfl]
  funext q u
  by_cases q15 : q = 15
  · subst q15
    rw [zxc_15, ea, eb, zxc_15]
    by_cases ub : u = b
    · rw [if_pos ub, ub]
    · rw [if_neg ub, if_neg ub]
      by_cases ua : u = a
      · rw [if_pos ua, ua]
      · rw [if_neg ua, if_neg ua]
  · by_cases q16 : q = 16
    · subst q16
      rw [zxc_16, ea, eb, zxc_16]
      by_cases ub : u = S 15 b ∧ 0 ≤ S 15 b
      · rw [if_pos ub, ub.1, b3 ub.2]
      · rw [if_neg ub]
        by_cases ua : u = S 15 a ∧ 0 ≤ S 15 a
        · rw [if_pos ua, ua.1, a3 ua.2]
        · rw [if_neg ua, if_neg ua, if_neg ub]
    · rw [zfp_xc _ _ _ q q15 q16, zfp_xc _ _ _ q q15 q16]
theorem p_xc3 {a b : Int} {S : xS} (ha : 0 ≤ a ∧ a < 16) (hb : 0 ≤ b ∧ b < 16) (ra : -1 ≤ S 15 a ∧ S 15 a < 10) (rb : -1 ≤ S 15 b ∧ S 15 b < 10) : (m_X3_put (S 15 b) a S = some (zpt (S 15 b) a S)) ∧ m_X3_put (S 15 a) b (zpt (S 15 b) a S) = some (zxc a b S) := ⟨p_put3 rb ha, p_put3 ra hb⟩
theorem p_isFixed {S T : xS} (h : zPC S T) {t : Int} (ht : 0 ≤ t ∧ t < 16) : ∃ f, m_X3_isFixed t S = some f ∧ m_X9_isFixed t T = some f ∧ (f = 0 ∨ f = 1) := by
  obtain ⟨⟨hn, e50, hcc, hss, h7⟩, hN, h1, h2⟩ := id h
  obtain ⟨a1, a2, a3⟩ := h1 t ht.1 ht.2
  unfold m_X3_isFixed m_X9_isFixed
  rw [p_fixedTile hn ⟨by omega, by omega⟩, ← a1]
  by_cases a : 0 ≤ S 15 t
  · have hv := hcc (S 15 t) a (by omega)
    have e10 := hv.2.2.2.2.2.2.1
    have r7 := hv.2.2.2.2.2.2.2.1
    by_cases b : S 7 (S 15 t) = -1
    · refine ⟨0, ?_, ?_, Or.inl rfl⟩
      · simp (disch := omega) only [xr, xck_t, xck_T, if_pos, if_neg, if_true, if_false, xbs, or_true, true_or, and_true, true_and]
      · simp (disch := omega) only [xr, xck_t, xck_T, if_pos, if_neg, if_true, if_false, xbs, or_true, true_or, and_true, true_and, e10]
    · refine ⟨1, ?_, ?_, Or.inr rfl⟩
      · simp (disch := omega) only [xr, xck_t, xck_T, if_pos, if_neg, if_true, if_false, xbs, or_true, true_or, and_true, true_and]
      · simp (disch := omega) only [xr, xck_t, xck_T, if_pos, if_neg, if_true, if_false, xbs, or_true, true_or, and_true, true_and, e10]
  · refine ⟨0, ?_, ?_, Or.inl rfl⟩
    · simp (disch := omega) only [xr, xck_t, xck_T, if_pos, if_neg, if_true, if_false, xbs, or_true, true_or, and_true, true_and]
    · simp (disch := omega) only [xr, xck_t, xck_T, if_pos, if_neg, if_true, if_false, xbs, or_true, true_or, and_true, true_and]
/-- the model goes on where the class has left -/
theorem p_skip {T : xS} {a any : Int} (hf : m_X9_isFixed a T = some 1) : ∀ (d m : Nat) (b : Int), 0 ≤ b → b + d = 16 → d < m → m_X9_pass_L14 a m any b T = some (any, T) := by
  intro d
  induction d with
  | zero =>
    intro m b h0 h1 h2
    obtain ⟨m, rfl⟩ : ∃ j, m = j + 1 := ⟨m - 1, by omega⟩
    unfold m_X9_pass_L14
    simp (disch := omega) only [xr, xck_t, xck_T, if_pos, if_neg, if_true, if_false, xbs, or_true, true_or, and_true, true_and]
  | succ d ih =>
    intro m b h0 h1 h2
    obtain ⟨m, rfl⟩ : ∃ j, m = j + 1 := ⟨m - 1, by omega⟩
    unfold m_X9_pass_L14
    rw [hf]
    simp (disch := omega) only [xr, xck_t, xck_T, if_pos, if_neg, if_true, if_false, xbs, or_true, true_or, and_true, true_and]
    exact ih m (b + 1) (by omega) (by omega) (by omega)
/-- the sum so far, against what it was -/
def zany (c0 v any : Int) : Prop := any = 0 ∧ v = c0 ∨ any = 1 ∧ v < c0
theorem p_pass1 (c0 : Int) {a : Int} (ha : 0 ≤ a ∧ a < 16) : ∀ (d n m : Nat) (b v any : Int) (S T : xS), zPC S T → m_X3_sumOfSpans S = some v → zany c0 v any → a < b → b + d = 16 → d < n → d < m →
    ∃ v1 any1 S1 T1, m_X3_goThrough_L15 a n v b S = some (v1, S1) ∧ m_X9_pass_L14 a m any b T = some (any1, T1) ∧ zPC S1 T1 ∧ m_X3_sumOfSpans S1 = some v1 ∧ zany c0 v1 any1 ∧ zfp S S1 ∧ zft T T1 := by
  intro d
  induction d with
  | zero =>
    intro n m b v any S T h hv hz hab hb l1 l2
    obtain ⟨n, rfl⟩ : ∃ j, n = j + 1 := ⟨n - 1, by omega⟩
    obtain ⟨m, rfl⟩ : ∃ j, m = j + 1 := ⟨m - 1, by omega⟩
    refine ⟨v, any, S, T, ?_, ?_, h, hv, hz, zfp.rf _, zft.rf _⟩
    · unfold m_X3_goThrough_L15
      simp (disch := omega) only [xr, xck_t, xck_T, if_pos, if_neg, if_true, if_false, xbs, or_true, true_or, and_true, true_and]
    · unfold m_X9_pass_L14
      simp (disch := omega) only [xr, xck_t, xck_T, if_pos, if_neg, if_true, if_false, xbs, or_true, true_or, and_true, true_and]
  | succ d ih =>
    intro n m b v any S T h hv hz hab hb l1 l2
    obtain ⟨fa, x1, x2, x3⟩ := p_isFixed h ha
    have hb16 : 0 ≤ b ∧ b < 16 := by omega
    rcases x3 with rfl | rfl
    · obtain ⟨n, rfl⟩ : ∃ j, n = j + 1 := ⟨n - 1, by omega⟩
      obtain ⟨m, rfl⟩ : ∃ j, m = j + 1 := ⟨m - 1, by omega⟩
      obtain ⟨fb, y1, y2, y3⟩ := p_isFixed h hb16
      obtain ⟨a1, a2, a3⟩ := h.2.2.1 a ha.1 ha.2
      obtain ⟨b1, b2, b3⟩ := h.2.2.1 b hb16.1 hb16.2
      have hn := h.1.1
      obtain ⟨w, w1, w2, w3, w4⟩ := p_cost3 h
      obtain rfl : w = v := by
        rw [hv] at w1
        exact (Option.some.inj w1).symm
      rcases y3 with rfl | rfl
      · by_cases e : S 15 a = S 15 b
        · have e1 : S 15 a < 0 := by
            by_cases q : S 15 a < 0
            · exact q
            · have q1 := a3 (by omega)
              rw [e] at q1
              have q2 := b3 (by omega)
              omega
          obtain ⟨v1, any1, S1, T1, i1, i2, i3⟩ := ih n m (b + 1) w any S T h hv hz (by omega) (by omega) (by omega) (by omega)
          have ee : m_X3_exchangeIfBetter a b w S = some (w, S) := by
            unfold m_X3_exchangeIfBetter
            simp (disch := omega) only [xr, xck_t, xck_T, if_pos, if_neg, if_true, if_false, xbs, or_true, true_or, and_true, true_and]
          refine ⟨v1, any1, S1, T1, ?_, ?_, i3⟩
          · unfold m_X3_goThrough_L15
            rw [x1, xbs, y1, xbs, ee]
            simp (disch := omega) only [xr, xck_t, xck_T, if_pos, if_neg, if_true, if_false, xbs, or_true, true_or, and_true, true_and]
            exact i1
          · unfold m_X9_pass_L14
            rw [x2, xbs, y2, xbs, ← a1, ← b1]
            simp (disch := omega) only [xr, xck_t, xck_T, if_pos, if_neg, if_true, if_false, xbs, or_true, true_or, and_true, true_and]
            exact i2
        · obtain ⟨T1, t1, rfl⟩ := p_ex9 (T := T) ha hb16 (by omega) (by omega)
          obtain ⟨p1, p2⟩ := p_xc3 (S := S) ha hb16 (by omega) (by omega)
          have hz1 := zxc_pz h.2.2 hn.2 ha hb16 (by omega) e
          have hP1 := h.of (zfp_xc a b S) (zft_ex a b T) hz1
          obtain ⟨r, r1, r2, r3, r4⟩ := p_cost3 hP1
          by_cases c : w ≤ r
          · have ea : zxc a b S 15 a = S 15 b := by rw [zxc_15, if_neg (by omega), if_pos rfl]
            have eb : zxc a b S 15 b = S 15 a := by rw [zxc_15, if_pos rfl]
            have e50 : zxc a b S 50 = S 50 := zfp_xc a b S 50 (by decide) (by decide)
            obtain ⟨a11, a12, a13⟩ := hz1.1 a ha.1 ha.2
            obtain ⟨b11, b12, b13⟩ := hz1.1 b hb16.1 hb16.2
            obtain ⟨T2, t2, rfl⟩ := p_ex9 (T := zex a b T) ha hb16 (by omega) (by omega)
            obtain ⟨p3, p4⟩ := p_xc3 (S := zxc a b S) ha hb16 (by omega) (by omega)
            have hz2 := zxc_pz hz1 hn.2 ha hb16 (by omega) (by rw [ea, eb]; exact fun q => e q.symm)
            have hbk := zxc_back h.2.2 ha hb16 (by omega : a ≠ b)
            rw [hbk] at hz2 p4
            rw [eb] at p3
            rw [ea, eb] at p4
            have hP2 := h.of (zfp.rf S) ((zft_ex a b T).tr (zft_ex a b (zex a b T))) hz2
            obtain ⟨v1, any1, S1, T1, i1, i2, i3, i4, i5, i6, i7⟩ := ih n m (b + 1) w any S (zex a b (zex a b T)) hP2 hv hz (by omega) (by omega) (by omega) (by omega)
            have ee : m_X3_exchangeIfBetter a b w S = some (w, S) := by
              unfold m_X3_exchangeIfBetter
              simp (disch := omega) only [xr, xck_t, xck_T, if_pos, if_neg, if_true, if_false, xbs, or_true, true_or, and_true, true_and, p1, p2, r1, p3, p4]
            refine ⟨v1, any1, S1, T1, ?_, ?_, i3, i4, i5, i6, ((zft_ex a b T).tr (zft_ex a b (zex a b T))).tr i7⟩
            · unfold m_X3_goThrough_L15
              rw [x1, xbs, y1, xbs, ee]
              simp (disch := omega) only [xr, xck_t, xck_T, if_pos, if_neg, if_true, if_false, xbs, or_true, true_or, and_true, true_and]
              exact i1
            · unfold m_X9_pass_L14
              rw [x2, xbs, y2, xbs, ← a1, ← b1, w2, xbs, t1, xbs, r2, xbs, t2]
              by_cases q : 0 ≤ S 15 a
              · simp (disch := omega) only [xr, xck_t, xck_T, if_pos, if_neg, if_true, if_false, xbs, or_true, true_or, and_true, true_and]
                exact i2
              · simp (disch := omega) only [xr, xck_t, xck_T, if_pos, if_neg, if_true, if_false, xbs, or_true, true_or, and_true, true_and]
                exact i2
          · obtain ⟨v1, any1, S1, T1, i1, i2, i3, i4, i5, i6, i7⟩ := ih n m (b + 1) r 1 (zxc a b S) (zex a b T) hP1 r1 (by unfold zany at hz ⊢; omega) (by omega) (by omega) (by omega) (by omega)
            have ee : m_X3_exchangeIfBetter a b w S = some (r, zxc a b S) := by
              unfold m_X3_exchangeIfBetter
              simp (disch := omega) only [xr, xck_t, xck_T, if_pos, if_neg, if_true, if_false, xbs, or_true, true_or, and_true, true_and, p1, p2, r1]
            refine ⟨v1, any1, S1, T1, ?_, ?_, i3, i4, i5, (zfp_xc a b S).tr i6, (zft_ex a b T).tr i7⟩
            · unfold m_X3_goThrough_L15
              rw [x1, xbs, y1, xbs, ee]
              simp (disch := omega) only [xr, xck_t, xck_T, if_pos, if_neg, if_true, if_false, xbs, or_true, true_or, and_true, true_and]
              exact i1
            · unfold m_X9_pass_L14
              rw [x2, xbs, y2, xbs, ← a1, ← b1, w2, xbs, t1, xbs, r2, xbs]
              by_cases q : 0 ≤ S 15 a
              · simp (disch := omega) only [xr, xck_t, xck_T, if_pos, if_neg, if_true, if_false, xbs, or_true, true_or, and_true, true_and]
                exact i2
              · simp (disch := omega) only [xr, xck_t, xck_T, if_pos, if_neg, if_true, if_false, xbs, or_true, true_or, and_true, true_and]
                exact i2
      · obtain ⟨v1, any1, S1, T1, i1, i2, i3⟩ := ih n m (b + 1) w any S T h hv hz (by omega) (by omega) (by omega) (by omega)
        refine ⟨v1, any1, S1, T1, ?_, ?_, i3⟩
        · unfold m_X3_goThrough_L15
          rw [x1, xbs, y1]
          simp (disch := omega) only [xr, xck_t, xck_T, if_pos, if_neg, if_true, if_false, xbs, or_true, true_or, and_true, true_and]
          exact i1
        · unfold m_X9_pass_L14
          rw [x2, xbs, y2]
          simp (disch := omega) only [xr, xck_t, xck_T, if_pos, if_neg, if_true, if_false, xbs, or_true, true_or, and_true, true_and]
          exact i2
    · refine ⟨v, any, S, T, ?_, p_skip x2 (d + 1) m b hb16.1 (by omega) l2, h, hv, hz, zfp.rf _, zft.rf _⟩
      obtain ⟨n, rfl⟩ : ∃ j, n = j + 1 := ⟨n - 1, by omega⟩
      unfold m_X3_goThrough_L15
      rw [x1]
      simp (disch := omega) only [xr, xck_t, xck_T, if_pos, if_neg, if_true, if_false, xbs, or_true, true_or, and_true, true_and]
theorem p_pass2 (c0 : Int) : ∀ (d n m : Nat) (a v any : Int) (S T : xS), zPC S T → m_X3_sumOfSpans S = some v → zany c0 v any → 0 ≤ a → a + d = 16 → d < n → d < m →
    ∃ v1 any1 S1 T1, m_X3_goThrough_L4 n v a S = some (v1, S1) ∧ m_X9_pass_L4 m any a T = some (any1, T1) ∧ zPC S1 T1 ∧ m_X3_sumOfSpans S1 = some v1 ∧ zany c0 v1 any1 ∧ zfp S S1 ∧ zft T T1 := by
  intro d
  induction d with
  | zero =>
    intro n m a v any S T h hv hz h0 hb l1 l2
    obtain ⟨n, rfl⟩ : ∃ j, n = j + 1 := ⟨n - 1, by omega⟩
    obtain ⟨m, rfl⟩ : ∃ j, m = j + 1 := ⟨m - 1, by omega⟩
    refine ⟨v, any, S, T, ?_, ?_, h, hv, hz, zfp.rf _, zft.rf _⟩
    · unfold m_X3_goThrough_L4
      simp (disch := omega) only [xr, xck_t, xck_T, if_pos, if_neg, if_true, if_false, xbs, or_true, true_or, and_true, true_and]
    · unfold m_X9_pass_L4
      simp (disch := omega) only [xr, xck_t, xck_T, if_pos, if_neg, if_true, if_false, xbs, or_true, true_or, and_true, true_and]
  | succ d ih =>
    intro n m a v any S T h hv hz h0 hb l1 l2
    obtain ⟨n, rfl⟩ : ∃ j, n = j + 1 := ⟨n - 1, by omega⟩
    obtain ⟨m, rfl⟩ : ∃ j, m = j + 1 := ⟨m - 1, by omega⟩
    obtain ⟨v1, any1, S1, T1, a1, a2, a3, a4, a5, a6, a7⟩ := p_pass1 c0 (a := a) ⟨h0, by omega⟩ (15 - a).toNat 2000 2000 (a + 1) v any S T h hv hz (by omega) (by omega) (by omega) (by omega)
    obtain ⟨v2, any2, S2, T2, i1, i2, i3, i4, i5, i6, i7⟩ := ih n m (a + 1) v1 any1 S1 T1 a3 a4 a5 (by omega) (by omega) (by omega) (by omega)
    refine ⟨v2, any2, S2, T2, ?_, ?_, i3, i4, i5, a6.tr i6, a7.tr i7⟩
    · unfold m_X3_goThrough_L4
      simp (disch := omega) only [xr, xck_t, xck_T, if_pos, if_neg, if_true, if_false, xbs, or_true, true_or, and_true, true_and, a1]
      exact i1
    · unfold m_X9_pass_L4
      simp (disch := omega) only [xr, xck_t, xck_T, if_pos, if_neg, if_true, if_false, xbs, or_true, true_or, and_true, true_and, a2]
      exact i2
theorem p_pass3 : ∀ (d n m : Nat) (k v : Int) (S T : xS), zPC S T → m_X3_sumOfSpans S = some v → 0 ≤ k → k + d = 20 → d < n → d + 1 < m →
    ∃ v1 S1 T1, m_X3_place_L11 n v k S = some (v1, S1) ∧ m_X9_place_L115 m 1 k T = some T1 ∧ zPC S1 T1 ∧ m_X3_sumOfSpans S1 = some v1 ∧ zfp S S1 ∧ zft T T1 := by
  intro d
  induction d with
  | zero =>
    intro n m k v S T h hv h0 hb l1 l2
    obtain ⟨n, rfl⟩ : ∃ j, n = j + 1 := ⟨n - 1, by omega⟩
    obtain ⟨m, rfl⟩ : ∃ j, m = j + 1 := ⟨m - 1, by omega⟩
    refine ⟨v, S, T, ?_, ?_, h, hv, zfp.rf _, zft.rf _⟩
    · unfold m_X3_place_L11
      simp (disch := omega) only [xr, xck_t, xck_T, if_pos, if_neg, if_true, if_false, xbs, or_true, true_or, and_true, true_and]
    · unfold m_X9_place_L115
      simp (disch := omega) only [xr, xck_t, xck_T, if_pos, if_neg, if_true, if_false, xbs, or_true, true_or, and_true, true_and]
  | succ d ih =>
    intro n m k v S T h hv h0 hb l1 l2
    obtain ⟨n, rfl⟩ : ∃ j, n = j + 1 := ⟨n - 1, by omega⟩
    obtain ⟨m, rfl⟩ : ∃ j, m = j + 1 := ⟨m - 1, by omega⟩
    obtain ⟨w, w1, w2, w3, w4⟩ := p_cost3 h
    obtain rfl : w = v := by
      rw [hv] at w1
      exact (Option.some.inj w1).symm
    obtain ⟨v1, any1, S1, T1, a1, a2, a3, a4, a5, a6, a7⟩ := p_pass2 w 16 2000 2000 0 w 0 S T h hv (Or.inl ⟨rfl, rfl⟩) (by omega) (by omega) (by omega) (by omega)
    obtain ⟨x, x1, x2, x3, x4⟩ := p_cost3 a3
    obtain rfl : x = v1 := by
      rw [a4] at x1
      exact (Option.some.inj x1).symm
    have eg : m_X3_goThrough w S = some (x, S1) := by
      unfold m_X3_goThrough
      rw [a1, xbs]
    have ep : m_X9_pass T = some (any1, T1) := by
      unfold m_X9_pass
      rw [a2, xbs, xck_t (by unfold zany at a5; omega)]
    rcases a5 with ⟨rfl, e⟩ | ⟨rfl, e⟩
    · subst e
      refine ⟨x, S1, T1, ?_, ?_, a3, a4, a6, a7⟩
      · unfold m_X3_place_L11
        rw [eg]
        simp (disch := omega) only [xr, xck_t, xck_T, if_pos, if_neg, if_true, if_false, xbs, or_true, true_or, and_true, true_and]
      · obtain ⟨m, rfl⟩ : ∃ j, m = j + 1 := ⟨m - 1, by omega⟩
        unfold m_X9_place_L115
        rw [ep, xbs]
        have e2 : m_X9_place_L115 (m + 1) 0 (k + 1) T1 = some T1 := by
          unfold m_X9_place_L115
          by_cases q : 20 ≤ k + 1
          · simp (disch := omega) only [xr, xck_t, xck_T, if_pos, if_neg, if_true, if_false, xbs, or_true, true_or, and_true, true_and]
          · simp (disch := omega) only [xr, xck_t, xck_T, if_pos, if_neg, if_true, if_false, xbs, or_true, true_or, and_true, true_and]
        rw [e2]
        simp (disch := omega) only [xr, xck_t, xck_T, if_pos, if_neg, if_true, if_false, xbs, or_true, true_or, and_true, true_and]
    · obtain ⟨v2, S2, T2, i1, i2, i3, i4, i5, i6⟩ := ih n m (k + 1) x S1 T1 a3 a4 (by omega) (by omega) (by omega) (by omega)
      refine ⟨v2, S2, T2, ?_, ?_, i3, i4, a6.tr i5, a7.tr i6⟩
      · unfold m_X3_place_L11
        rw [eg]
        simp (disch := omega) only [xr, xck_t, xck_T, if_pos, if_neg, if_true, if_false, xbs, or_true, true_or, and_true, true_and]
        exact i1
      · unfold m_X9_place_L115
        rw [ep]
        simp (disch := omega) only [xr, xck_t, xck_T, if_pos, if_neg, if_true, if_false, xbs, or_true, true_or, and_true, true_and]
        exact i2
theorem p_place {S T : xS} (hC : zCirc S T) (hN : zNet S) : ∃ v S1 T1, m_X3_place S = some (v, S1) ∧ m_X9_place T = some T1 ∧ zPC S1 T1 ∧ m_X3_sumOfSpans S1 = some v ∧ zfp S S1 ∧ zft T T1 := by
  obtain ⟨S1, T1, T2, T3, a1, a2, a3, a4, a5, a6, a7⟩ := p_first hC
  have hP : zPC S1 T3 := ⟨zfp.circ hC a6 a7, hN.of (a6 8 (by decide) (by decide)) (a6 13 (by decide) (by decide)) (a6 14 (by decide) (by decide)), by rw [a6 50 (by decide) (by decide)]; exact a5⟩
  obtain ⟨w, w1, w2, w3, w4⟩ := p_cost3 hP
  obtain ⟨v, S2, T4, b1, b2, b3, b4, b5, b6⟩ := p_pass3 20 2000 2000 0 w S1 T3 hP w1 (by omega) (by omega) (by omega) (by omega)
  refine ⟨v, S2, T4, ?_, ?_, b3, b4, a6.tr b5, a7.tr b6⟩
  · unfold m_X3_place
    rw [a1, xbs, w1, xbs, b1, xbs]
  · unfold m_X9_place
    rw [a2, xbs, a3, xbs, a4, xbs, b2, xbs]
