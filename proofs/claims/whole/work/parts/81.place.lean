/-! placing: the first places -/
theorem p_fixedTile {S : xS} {p : Int} (hn : 0 ≤ S 50 0 ∧ S 50 0 ≤ 10) (hp : xr p) : m_X0_fixedTile p S = some (if 0 ≤ p ∧ p < S 50 0 then S 7 p else -1) := by
  unfold m_X0_fixedTile
  rw [p_hasCell hn hp]
  by_cases a : 0 ≤ p ∧ p < S 50 0
  · rw [if_pos a, if_pos a]
    simp (disch := omega) only [xr, xck_t, xck_T, if_pos, if_neg, if_true, if_false, xbs, or_true, true_or, and_true, true_and]
  · rw [if_neg a, if_neg a]
    simp (disch := omega) only [xr, xck_t, xck_T, if_pos, if_neg, if_true, if_false, xbs, or_true, true_or, and_true, true_and]
/-- a cell, or nothing, put on a tile -/
def zpt (c t : Int) (S : xS) : xS := if c < 0 then xup S 15 t c else xup (xup S 15 t c) 16 c t
theorem p_put3 {c t : Int} {S : xS} (hc : -1 ≤ c ∧ c < 10) (ht : 0 ≤ t ∧ t < 16) : m_X3_put c t S = some (zpt c t S) := by
  unfold m_X3_put zpt
  by_cases a : c < 0
  · simp (disch := omega) only [xr, xck_t, xck_T, if_pos, if_neg, if_true, if_false, xbs, or_true, true_or, and_true, true_and]
  · simp (disch := omega) only [xr, xck_t, xck_T, if_pos, if_neg, if_true, if_false, xbs, or_true, true_or, and_true, true_and]
theorem p_put3n {c : Int} {S : xS} : m_X3_put c (-1) S = some S := by
  unfold m_X3_put
  simp (disch := omega) only [xr, xck_t, xck_T, if_pos, if_neg, if_true, if_false, xbs, or_true, true_or, and_true, true_and]
theorem zpt_q {c t : Int} {S : xS} {q : Nat} (h15 : q ≠ 15) (h16 : q ≠ 16) : zpt c t S q = S q := by
  unfold zpt
  by_cases a : c < 0
  · rw [if_pos a, xup_q _ _ _ h15]
  · rw [if_neg a, xup_q _ _ _ h16, xup_q _ _ _ h15]
theorem zpt_15 (c t : Int) (S : xS) (u : Int) : zpt c t S 15 u = if u = t then c else S 15 u := by
  unfold zpt
  by_cases a : c < 0
  · rw [if_pos a]
    by_cases e : u = t
    · rw [if_pos e, e, xup_s]
    · rw [if_neg e, xup_i _ _ _ e]
  · rw [if_neg a, xup_q _ _ _ (by decide : (15 : Nat) ≠ 16)]
    by_cases e : u = t
    · rw [if_pos e, e, xup_s]
    · rw [if_neg e, xup_i _ _ _ e]
theorem zpt_16 (c t : Int) (S : xS) (j : Int) : zpt c t S 16 j = if j = c ∧ 0 ≤ c then t else S 16 j := by
  unfold zpt
  by_cases a : c < 0
  · rw [if_pos a, if_neg (by omega), xup_q _ _ _ (by decide : (16 : Nat) ≠ 15)]
  · rw [if_neg a]
    by_cases e : j = c
    · rw [if_pos (by omega), e, xup_s]
    · rw [if_neg (by omega), xup_i _ _ _ e, xup_q _ _ _ (by decide : (16 : Nat) ≠ 15)]
/-- the places so far; g: which cells have one -/
def zPl (S T : xS) (n : Int) (g : Int → Int) : Prop :=
  (∀ t, 0 ≤ t → t < 16 → S 15 t = T 14 t ∧ (-1 ≤ S 15 t ∧ S 15 t < n) ∧ (0 ≤ S 15 t → S 16 (S 15 t) = t ∧ g (S 15 t) = 1)) ∧
  (∀ c, 0 ≤ c → c < n → g c = 1 → S 16 c = T 13 c ∧ 0 ≤ S 16 c ∧ S 16 c ≤ 15) ∧
  zsum (fun t => zi (0 ≤ S 15 t)) 16 ≤ zsum g 10
theorem zPl_put {S T : xS} {n c t : Int} {g : Int → Int} (h : zPl S T n g) (hc : 0 ≤ c ∧ c < n) (hn : n ≤ 10) (ht : 0 ≤ t ∧ t < 16) (h0 : g c = 0) : zPl (zpt c t S) (xup (xup T 13 c t) 14 t c) n (fun j => if j = c then 1 else g j) := by
  obtain ⟨h1, h2, h3⟩ := h
  refine ⟨fun u u0 u1 => ?_, fun j j0 j1 => ?_, ?_⟩
  · simp only [zpt_15]
    by_cases e : u = t
    · rw [if_pos e, e, xup_s, zpt_16, if_pos ⟨rfl, hc.1⟩]
      exact ⟨rfl, ⟨by omega, hc.2⟩, fun _ => ⟨rfl, if_pos rfl⟩⟩
    · obtain ⟨a1, a2, a3⟩ := h1 u u0 u1
      rw [if_neg e, xup_i _ _ _ e, xup_q _ _ _ (by decide : (14 : Nat) ≠ 13)]
      refine ⟨a1, a2, fun p => ?_⟩
      obtain ⟨b1, b2⟩ := a3 p
      have ne : S 15 u ≠ c := fun q => by
        rw [q, h0] at b2
        omega
      rw [zpt_16, if_neg (fun q => ne q.1)]
      exact ⟨b1, by rw [if_neg ne]; exact b2⟩
  · rw [zpt_16]
    by_cases e : j = c
    · rw [if_pos ⟨e, hc.1⟩, e, xup_q _ _ _ (by decide : (13 : Nat) ≠ 14), xup_s]
      exact fun _ => ⟨rfl, by omega, by omega⟩
    · rw [if_neg (fun q => e q.1), xup_q _ _ _ (by decide : (13 : Nat) ≠ 14), xup_i _ _ _ e]
      intro q
      have q2 : (if j = c then (1 : Int) else g j) = 1 := q
      rw [if_neg e] at q2
      exact h2 j j0 j1 q2
  · have e1 := zsum_up g (fun j => if j = c then 1 else g j) c 10 hc.1 (fun j hj => if_neg hj)
    rw [if_pos (by omega)] at e1
    simp only [if_true] at e1
    have e2 := zsum_up (fun u => zi (0 ≤ S 15 u)) (fun u => zi (0 ≤ zpt c t S 15 u)) t 16 ht.1 (fun j hj => by rw [zpt_15, if_neg hj])
    rw [if_pos (by omega)] at e2
    have e3 := zi_01 (0 ≤ S 15 t)
    have e4 := zi_01 (0 ≤ zpt c t S 15 t)
    omega
theorem p_clrT : ∀ (d n : Nat) (v : Int) (T : xS), 0 ≤ v → v + d = 16 → d < n → ∃ T1, m_X9_place_L2 n v T = some T1 ∧ (∀ q, q ≠ 14 → T1 q = T q) ∧ (∀ t, 0 ≤ t → t < 16 → (v ≤ t ∨ T 14 t = -1) → T1 14 t = -1) := by
  intro d
  induction d with
  | zero =>
    intro n v T h0 h1 h2
    obtain ⟨n, rfl⟩ : ∃ j, n = j + 1 := ⟨n - 1, by omega⟩
    refine ⟨T, ?_, fun _ _ => rfl, fun t t0 t1 h => by rcases h with h | h; omega; exact h⟩
    unfold m_X9_place_L2
    simp (disch := omega) only [xr, xck_t, xck_T, if_pos, if_neg, if_true, if_false, xbs, or_true, true_or, and_true, true_and]
  | succ d ih =>
    intro n v T h0 h1 h2
    obtain ⟨n, rfl⟩ : ∃ j, n = j + 1 := ⟨n - 1, by omega⟩
    obtain ⟨T1, i1, i2, i3⟩ := ih n (v + 1) (xup T 14 v (-1)) (by omega) (by omega) (by omega)
    refine ⟨T1, ?_, fun q hq => by rw [i2 q hq, xup_q _ _ _ hq], fun t t0 t1 h => ?_⟩
    · unfold m_X9_place_L2
      simp (disch := omega) only [xr, xck_t, xck_T, if_pos, if_neg, if_true, if_false, xbs, or_true, true_or, and_true, true_and]
      exact i1
    · refine i3 t t0 t1 ?_
      by_cases e : t = v
      · rw [e, xup_s]
        exact Or.inr rfl
      · rw [xup_i _ _ _ e]
        rcases h with h | h
        · exact Or.inl (by omega)
        · exact Or.inr h
/-- only places differ -/
def zfp (S S1 : xS) : Prop := ∀ q, q ≠ 15 → q ≠ 16 → S1 q = S q
def zft (T T1 : xS) : Prop := ∀ q, q ≠ 13 → q ≠ 14 → T1 q = T q
theorem zfp.circ {S T S1 T1 : xS} (h : zCirc S T) (a : zfp S S1) (b : zft T T1) : zCirc S1 T1 :=
  h.of (a 50 (by decide) (by decide)) (a 4 (by decide) (by decide)) (a 5 (by decide) (by decide)) (a 6 (by decide) (by decide)) (a 7 (by decide) (by decide)) (a 8 (by decide) (by decide)) (a 9 (by decide) (by decide)) (b 50 (by decide) (by decide)) (b 6 (by decide) (by decide)) (b 7 (by decide) (by decide)) (b 8 (by decide) (by decide)) (b 9 (by decide) (by decide)) (b 10 (by decide) (by decide)) (b 11 (by decide) (by decide))
theorem zfp_pt (c t : Int) (S : xS) : zfp S (zpt c t S) := fun _ h1 h2 => zpt_q h1 h2
theorem zft_pt (c t : Int) (T : xS) : zft T (xup (xup T 13 c t) 14 t c) := fun _ h1 h2 => by rw [xup_q _ _ _ h2, xup_q _ _ _ h1]
theorem zfp.tr {A B C : xS} (a : zfp A B) (b : zfp B C) : zfp A C := fun q h1 h2 => by rw [b q h1 h2, a q h1 h2]
theorem zft.tr {A B C : xS} (a : zft A B) (b : zft B C) : zft A C := fun q h1 h2 => by rw [b q h1 h2, a q h1 h2]
theorem zfp.rf (A : xS) : zfp A A := fun _ _ _ => rfl
theorem zft.rf (A : xS) : zft A A := fun _ _ _ => rfl
theorem p_put9 {c t : Int} {T : xS} (hc : 0 ≤ c ∧ c < 10) (ht : 0 ≤ t ∧ t < 16) : m_X9_put c t T = some (xup (xup T 13 c t) 14 t c) := by
  unfold m_X9_put
  simp (disch := omega) only [xr, xck_t, xck_T, if_pos, if_neg, if_true, if_false, xbs, or_true, true_or, and_true, true_and]
/-- the fixed cells -/
theorem p_pl1 : ∀ (d n m : Nat) (v : Int) (S T : xS), zCirc S T → zPl S T (S 50 0) (fun j => zi (0 ≤ S 7 j ∧ j < v)) → 0 ≤ v → v + d = S 50 0 → d < n → d < m →
    ∃ S1 T1, m_X3_putFirst_L10 n v S = some S1 ∧ m_X9_place_L23 m v T = some T1 ∧ zPl S1 T1 (S1 50 0) (fun j => zi (0 ≤ S1 7 j ∧ j < S1 50 0)) ∧ zfp S S1 ∧ zft T T1 := by
  intro d
  induction d with
  | zero =>
    intro n m v S T hC h h0 h1 h2 h3
    obtain ⟨n, rfl⟩ : ∃ j, n = j + 1 := ⟨n - 1, by omega⟩
    obtain ⟨m, rfl⟩ : ∃ j, m = j + 1 := ⟨m - 1, by omega⟩
    obtain ⟨hn, e50, hcc, hs, h7⟩ := id hC
    have ev : v = S 50 0 := by omega
    refine ⟨S, T, ?_, ?_, by rw [← ev]; rw [← ev] at h; exact h, zfp.rf _, zft.rf _⟩
    · unfold m_X3_putFirst_L10 m_X0_size
      simp (disch := omega) only [xr, xck_t, xck_T, if_pos, if_neg, if_true, if_false, xbs, or_true, true_or, and_true, true_and]
    · unfold m_X9_place_L23
      rw [e50]
      simp (disch := omega) only [xr, xck_t, xck_T, if_pos, if_neg, if_true, if_false, xbs, or_true, true_or, and_true, true_and]
  | succ d ih =>
    intro n m v S T hC h h0 h1 h2 h3
    obtain ⟨n, rfl⟩ : ∃ j, n = j + 1 := ⟨n - 1, by omega⟩
    obtain ⟨m, rfl⟩ : ∃ j, m = j + 1 := ⟨m - 1, by omega⟩
    obtain ⟨hn, e50, hcc, hs, h7⟩ := id hC
    have hv := hcc v h0 (by omega)
    have e10 := hv.2.2.2.2.2.2.1
    have r7 := hv.2.2.2.2.2.2.2.1
    have ef : m_X0_fixedTile v S = some (S 7 v) := by
      rw [p_fixedTile hn ⟨by omega, by omega⟩, if_pos ⟨h0, by omega⟩]
    unfold m_X3_putFirst_L10 m_X9_place_L23 m_X0_size
    rw [ef, e50, e10]
    by_cases a : S 7 v < 0
    · have e7 : S 7 v = -1 := by omega
      have eg : (fun j => zi (0 ≤ S 7 j ∧ j < v)) = (fun j => zi (0 ≤ S 7 j ∧ j < v + 1)) := by
        funext j
        by_cases ej : j = v
        · rw [zi_f (show ¬ (0 ≤ S 7 j ∧ j < v) by omega), zi_f (show ¬ (0 ≤ S 7 j ∧ j < v + 1) by rw [ej, e7]; omega)]
        · by_cases ek : 0 ≤ S 7 j ∧ j < v
          · rw [zi_t ek, zi_t (show 0 ≤ S 7 j ∧ j < v + 1 by omega)]
          · rw [zi_f ek, zi_f (show ¬ (0 ≤ S 7 j ∧ j < v + 1) by omega)]
      rw [eg] at h
      obtain ⟨S1, T1, i1, i2, i3, i4, i5⟩ := ih n m (v + 1) S T hC h (by omega) (by omega) (by omega) (by omega)
      refine ⟨S1, T1, ?_, ?_, i3, i4, i5⟩
      · rw [e7, xbs, xbs, p_put3n]
        simp (disch := omega) only [xr, xck_t, xck_T, if_pos, if_neg, if_true, if_false, xbs, or_true, true_or, and_true, true_and]
        exact i1
      · rw [e7]
        simp (disch := omega) only [xr, xck_t, xck_T, if_pos, if_neg, if_true, if_false, xbs, or_true, true_or, and_true, true_and]
        exact i2
    · have eg : (fun j => if j = v then 1 else zi (0 ≤ S 7 j ∧ j < v)) = (fun j => zi (0 ≤ S 7 j ∧ j < v + 1)) := by
        funext j
        by_cases ej : j = v
        · rw [if_pos ej, zi_t (show 0 ≤ S 7 j ∧ j < v + 1 by rw [ej]; omega)]
        · rw [if_neg ej]
          by_cases ek : 0 ≤ S 7 j ∧ j < v
          · rw [zi_t ek, zi_t (show 0 ≤ S 7 j ∧ j < v + 1 by omega)]
          · rw [zi_f ek, zi_f (show ¬ (0 ≤ S 7 j ∧ j < v + 1) by omega)]
      have hp := zPl_put h (c := v) (t := S 7 v) ⟨h0, by omega⟩ hn.2 ⟨by omega, by omega⟩ (zi_f (by omega))
      rw [eg] at hp
      have e50' : zpt v (S 7 v) S 50 = S 50 := zpt_q (by decide) (by decide)
      have e7' : zpt v (S 7 v) S 7 = S 7 := zpt_q (by decide) (by decide)
      obtain ⟨S1, T1, i1, i2, i3, i4, i5⟩ := ih n m (v + 1) (zpt v (S 7 v) S) (xup (xup T 13 v (S 7 v)) 14 (S 7 v) v) (zfp.circ hC (zfp_pt _ _ _) (zft_pt _ _ _)) (by rw [e50', e7']; exact hp) (by omega) (by rw [e50']; omega) (by omega) (by omega)
      refine ⟨S1, T1, ?_, ?_, i3, (zfp_pt _ _ _).tr i4, (zft_pt _ _ _).tr i5⟩
      · rw [xbs, xbs, p_put3 ⟨by omega, by omega⟩ ⟨by omega, by omega⟩]
        simp (disch := omega) only [xr, xck_t, xck_T, if_pos, if_neg, if_true, if_false, xbs, or_true, true_or, and_true, true_and]
        exact i1
      · rw [p_put9 ⟨by omega, by omega⟩ ⟨by omega, by omega⟩]
        simp (disch := omega) only [xr, xck_t, xck_T, if_pos, if_neg, if_true, if_false, xbs, or_true, true_or, and_true, true_and]
        exact i2
theorem zsum_1 (f : Int → Int) : ∀ n : Nat, (∀ j : Int, 0 ≤ j → j < (n : Int) → f j = 1) → zsum f n = n := by
  intro n
  induction n with
  | zero => intro _; rfl
  | succ n ih =>
    intro h
    show zsum f n + f n = _
    rw [ih (fun j h0 h1 => h j h0 (by omega)), h n (by omega) (by omega)]
    omega
theorem zfirst (f : Int → Int) (h : ∀ t, 0 ≤ f t ∧ f t ≤ 1) : ∀ m : Nat, (∃ t, (0 ≤ t ∧ t < (m : Int)) ∧ f t = 0 ∧ ∀ u, 0 ≤ u → u < t → f u = 1) ∨ (∀ u, 0 ≤ u → u < (m : Int) → f u = 1) := by
  intro m
  induction m with
  | zero => exact Or.inr (fun u u0 u1 => by omega)
  | succ m ih =>
    rcases ih with ⟨t, t0, t1, t2⟩ | a
    · exact Or.inl ⟨t, by omega, t1, t2⟩
    · have hm := h m
      by_cases e : f m = 0
      · exact Or.inl ⟨m, by omega, e, a⟩
      · right
        intro u u0 u1
        by_cases eu : u = m
        · rw [eu]
          omega
        · exact a u u0 (by omega)
theorem zfree (f : Int → Int) (h : ∀ t, 0 ≤ f t ∧ f t ≤ 1) (hs : zsum f 16 ≤ 10) : ∃ t, (0 ≤ t ∧ t < 15) ∧ f t = 0 ∧ ∀ u, 0 ≤ u → u < t → f u = 1 := by
  rcases zfirst f h 15 with ⟨t, t0, t1, t2⟩ | a
  · exact ⟨t, by omega, t1, t2⟩
  · have e := zsum_1 f 15 a
    have e2 : zsum f 16 = zsum f 15 + f 15 := rfl
    have := h 15
    omega
theorem p_scan3 (S : xS) (q t : Int) (ht : 0 ≤ t ∧ t < 16) (h : S 15 t = -1) (hx : ∀ u, 0 ≤ u → u < 16 → xr (S 15 u)) (hu : ∀ u, 0 ≤ u → u < t → 0 ≤ S 15 u) : ∀ (d n : Nat) (v : Int), 0 ≤ v → v + d = t → d < n → m_X3_putFirst_L67 q S n v = some t := by
  intro d
  induction d with
  | zero =>
    intro n v h0 h1 h2
    obtain ⟨n, rfl⟩ : ∃ j, n = j + 1 := ⟨n - 1, by omega⟩
    obtain rfl : v = t := by omega
    unfold m_X3_putFirst_L67
    rw [h]
    simp (disch := omega) only [xr, xck_t, xck_T, if_pos, if_neg, if_true, if_false, xbs, or_true, true_or, and_true, true_and]
  | succ d ih =>
    intro n v h0 h1 h2
    obtain ⟨n, rfl⟩ : ∃ j, n = j + 1 := ⟨n - 1, by omega⟩
    have a := hu v h0 (by omega)
    have b := hx v h0 (by omega)
    unfold m_X3_putFirst_L67
    simp (disch := omega) only [xr, xck_t, xck_T, if_pos, if_neg, if_true, if_false, xbs, or_true, true_or, and_true, true_and]
    exact ih n (v + 1) (by omega) (by omega) (by omega)
theorem p_scan9 (T : xS) (q t : Int) (ht : 0 ≤ t ∧ t < 15) (h : T 14 t = -1) (hx : ∀ u, 0 ≤ u → u < 16 → xr (T 14 u)) (hu : ∀ u, 0 ≤ u → u < t → 0 ≤ T 14 u) : ∀ (d n : Nat) (v : Int), 0 ≤ v → v + d = t → d < n → m_X9_place_L69 q T n v = some t := by
  intro d
  induction d with
  | zero =>
    intro n v h0 h1 h2
    obtain ⟨n, rfl⟩ : ∃ j, n = j + 1 := ⟨n - 1, by omega⟩
    obtain rfl : v = t := by omega
    unfold m_X9_place_L69
    rw [h]
    simp (disch := omega) only [xr, xck_t, xck_T, if_pos, if_neg, if_true, if_false, xbs, or_true, true_or, and_true, true_and]
  | succ d ih =>
    intro n v h0 h1 h2
    obtain ⟨n, rfl⟩ : ∃ j, n = j + 1 := ⟨n - 1, by omega⟩
    have a := hu v h0 (by omega)
    have b := hx v h0 (by omega)
    unfold m_X9_place_L69
    simp (disch := omega) only [xr, xck_t, xck_T, if_pos, if_neg, if_true, if_false, xbs, or_true, true_or, and_true, true_and]
    exact ih n (v + 1) (by omega) (by omega) (by omega)
/-- the others, each on the lowest free tile -/
theorem p_pl2 : ∀ (d n m : Nat) (v fr : Int) (S T : xS), zCirc S T → zPl S T (S 50 0) (fun j => zi ((0 ≤ S 7 j ∧ j < S 50 0) ∨ (0 ≤ j ∧ j < v))) → 0 ≤ v → v + d = S 50 0 → d < n → d < m → 0 ≤ fr → (∀ u, 0 ≤ u → u < fr → u < 16 → 0 ≤ S 15 u) →
    ∃ S1 T1, m_X3_putFirst_L44 n fr v S = some S1 ∧ m_X9_place_L59 m v T = some T1 ∧ zPl S1 T1 (S1 50 0) (fun j => zi ((0 ≤ S1 7 j ∧ j < S1 50 0) ∨ (0 ≤ j ∧ j < S1 50 0))) ∧ zfp S S1 ∧ zft T T1 := by
  intro d
  induction d with
  | zero =>
    intro n m v fr S T hC h h0 h1 h2 h3 hf0 hf
    obtain ⟨n, rfl⟩ : ∃ j, n = j + 1 := ⟨n - 1, by omega⟩
    obtain ⟨m, rfl⟩ : ∃ j, m = j + 1 := ⟨m - 1, by omega⟩
    obtain ⟨hn, e50, hcc, hs, h7⟩ := id hC
    have ev : v = S 50 0 := by omega
    refine ⟨S, T, ?_, ?_, by rw [ev] at h; exact h, zfp.rf _, zft.rf _⟩
    · unfold m_X3_putFirst_L44 m_X0_size
      simp (disch := omega) only [xr, xck_t, xck_T, if_pos, if_neg, if_true, if_false, xbs, or_true, true_or, and_true, true_and]
    · unfold m_X9_place_L59
      rw [e50]
      simp (disch := omega) only [xr, xck_t, xck_T, if_pos, if_neg, if_true, if_false, xbs, or_true, true_or, and_true, true_and]
  | succ d ih =>
    intro n m v fr S T hC h h0 h1 h2 h3 hf0 hf
    obtain ⟨n, rfl⟩ : ∃ j, n = j + 1 := ⟨n - 1, by omega⟩
    obtain ⟨m, rfl⟩ : ∃ j, m = j + 1 := ⟨m - 1, by omega⟩
    obtain ⟨hn, e50, hcc, hs, h7⟩ := id hC
    have hv := hcc v h0 (by omega)
    have e10 := hv.2.2.2.2.2.2.1
    have r7 := hv.2.2.2.2.2.2.2.1
    have ef : m_X0_fixedTile v S = some (S 7 v) := by
      rw [p_fixedTile hn ⟨by omega, by omega⟩, if_pos ⟨h0, by omega⟩]
    have hg := zsum_le (fun j => zi ((0 ≤ S 7 j ∧ j < S 50 0) ∨ (0 ≤ j ∧ j < v))) 10 (fun j _ _ => zi_01 _)
    obtain ⟨g1, g2, g3⟩ := id h
    obtain ⟨t, t0, t1, t2⟩ := zfree (fun t => zi (0 ≤ S 15 t)) (fun t => zi_01 _) (by omega)
    have t1 : ¬ 0 ≤ S 15 t := fun q => by
      simp only [zi_t q] at t1
      omega
    have t2 : ∀ u, 0 ≤ u → u < t → 0 ≤ S 15 u := fun u u0 u1 => by
      by_cases q : 0 ≤ S 15 u
      · exact q
      · have := t2 u u0 u1
        simp only [zi_f q] at this
        omega
    have a15 := g1 t t0.1 (by omega)
    have e15 : S 15 t = -1 := by omega
    have hx15 : ∀ u, 0 ≤ u → u < 16 → xr (S 15 u) := fun u u0 u1 => by
      have := (g1 u u0 u1).2.1
      exact ⟨by omega, by omega⟩
    have hx14 : ∀ u, 0 ≤ u → u < 16 → xr (T 14 u) := fun u u0 u1 => by
      rw [← (g1 u u0 u1).1]
      exact hx15 u u0 u1
    have s9 := p_scan9 T v t t0 (by rw [← a15.1]; exact e15) hx14 (fun u u0 u1 => by rw [← (g1 u u0 (by omega)).1]; exact t2 u u0 u1) t.toNat 2000 0 (by omega) (by omega) (by omega)
    unfold m_X3_putFirst_L44 m_X9_place_L59 m_X0_size
    rw [ef, e50, e10, s9]
    by_cases a : S 7 v < 0
    · have e7 : S 7 v = -1 := by omega
      have hft : fr ≤ t := by
        by_cases q : fr ≤ t
        · exact q
        · exact absurd (hf t t0.1 (by omega) (by omega)) t1
      have s3 := p_scan3 S v t ⟨by omega, by omega⟩ e15 hx15 t2 (t - fr).toNat 2000 fr hf0 (by omega) (by omega)
      have eg : (fun j => if j = v then 1 else zi ((0 ≤ S 7 j ∧ j < S 50 0) ∨ (0 ≤ j ∧ j < v))) = (fun j => zi ((0 ≤ S 7 j ∧ j < S 50 0) ∨ (0 ≤ j ∧ j < v + 1))) := by
        funext j
        by_cases ej : j = v
        · rw [if_pos ej, zi_t (show (0 ≤ S 7 j ∧ j < S 50 0) ∨ (0 ≤ j ∧ j < v + 1) by omega)]
        · rw [if_neg ej]
          by_cases ek : (0 ≤ S 7 j ∧ j < S 50 0) ∨ (0 ≤ j ∧ j < v)
          · rw [zi_t ek, zi_t (show (0 ≤ S 7 j ∧ j < S 50 0) ∨ (0 ≤ j ∧ j < v + 1) by omega)]
          · rw [zi_f ek, zi_f (show ¬ ((0 ≤ S 7 j ∧ j < S 50 0) ∨ (0 ≤ j ∧ j < v + 1)) by omega)]
      have hp := zPl_put h (c := v) (t := t) ⟨h0, by omega⟩ hn.2 ⟨by omega, by omega⟩ (zi_f (by omega))
      rw [eg] at hp
      have e50' : zpt v t S 50 = S 50 := zpt_q (by decide) (by decide)
      have e7' : zpt v t S 7 = S 7 := zpt_q (by decide) (by decide)
      obtain ⟨S1, T1, i1, i2, i3, i4, i5⟩ := ih n m (v + 1) t (zpt v t S) (xup (xup T 13 v t) 14 t v) (zfp.circ hC (zfp_pt _ _ _) (zft_pt _ _ _)) (by rw [e50', e7']; exact hp) (by omega) (by rw [e50']; omega) (by omega) (by omega) t0.1 (fun u u0 u1 _ => by
        rw [zpt_15, if_neg (by omega)]
        exact t2 u u0 u1)
      refine ⟨S1, T1, ?_, ?_, i3, (zfp_pt _ _ _).tr i4, (zft_pt _ _ _).tr i5⟩
      · rw [e7, xbs, s3, xbs, xbs, p_put3 ⟨by omega, by omega⟩ ⟨by omega, by omega⟩]
        simp (disch := omega) only [xr, xck_t, xck_T, if_pos, if_neg, if_true, if_false, xbs, or_true, true_or, and_true, true_and]
        exact i1
      · have e9 := p_put9 (c := v) (t := t) (T := T) ⟨by omega, by omega⟩ ⟨by omega, by omega⟩
        rw [e7]
        simp (disch := omega) only [xr, xck_t, xck_T, if_pos, if_neg, if_true, if_false, xbs, or_true, true_or, and_true, true_and, e9]
        exact i2
    · have eg : (fun j => zi ((0 ≤ S 7 j ∧ j < S 50 0) ∨ (0 ≤ j ∧ j < v))) = (fun j => zi ((0 ≤ S 7 j ∧ j < S 50 0) ∨ (0 ≤ j ∧ j < v + 1))) := by
        funext j
        by_cases ej : j = v
        · rw [zi_t (show (0 ≤ S 7 j ∧ j < S 50 0) ∨ (0 ≤ j ∧ j < v) by rw [ej]; omega), zi_t (show (0 ≤ S 7 j ∧ j < S 50 0) ∨ (0 ≤ j ∧ j < v + 1) by omega)]
        · by_cases ek : (0 ≤ S 7 j ∧ j < S 50 0) ∨ (0 ≤ j ∧ j < v)
          · rw [zi_t ek, zi_t (show (0 ≤ S 7 j ∧ j < S 50 0) ∨ (0 ≤ j ∧ j < v + 1) by omega)]
          · rw [zi_f ek, zi_f (show ¬ ((0 ≤ S 7 j ∧ j < S 50 0) ∨ (0 ≤ j ∧ j < v + 1)) by omega)]
      rw [eg] at h
      obtain ⟨S1, T1, i1, i2, i3, i4, i5⟩ := ih n m (v + 1) fr S T hC h (by omega) (by omega) (by omega) (by omega) hf0 hf
      refine ⟨S1, T1, ?_, ?_, i3, i4, i5⟩
      · simp (disch := omega) only [xr, xck_t, xck_T, if_pos, if_neg, if_true, if_false, xbs, or_true, true_or, and_true, true_and]
        exact i1
      · simp (disch := omega) only [xr, xck_t, xck_T, if_pos, if_neg, if_true, if_false, xbs, or_true, true_or, and_true, true_and]
        exact i2
/-- all cells on their tiles -/
def zPz (S T : xS) (n : Int) : Prop :=
  (∀ t, 0 ≤ t → t < 16 → S 15 t = T 14 t ∧ (-1 ≤ S 15 t ∧ S 15 t < n) ∧ (0 ≤ S 15 t → S 16 (S 15 t) = t)) ∧
  (∀ c, 0 ≤ c → c < n → S 16 c = T 13 c ∧ 0 ≤ S 16 c ∧ S 16 c ≤ 15)
theorem p_first {S T : xS} (hC : zCirc S T) : ∃ S1 T1 T2 T3, m_X3_putFirst S = some S1 ∧ m_X9_place_L2 2000 0 T = some T1 ∧ m_X9_place_L23 2000 0 T1 = some T2 ∧ m_X9_place_L59 2000 0 T2 = some T3 ∧ zPz S1 T3 (S 50 0) ∧ zfp S S1 ∧ zft T T3 := by
  obtain ⟨hn, e50, hcc, hs, h7⟩ := id hC
  obtain ⟨T1, a1, a2, a3⟩ := p_clrT 16 2000 0 T (by omega) (by omega) (by omega)
  have f15 : ∀ t, 0 ≤ t → t < 16 → xfl S 15 16 (-1) 15 t = -1 := fun t t0 t1 => if_pos ⟨rfl, t0, t1⟩
  have fp0 : zfp S (xfl S 15 16 (-1)) := fun q q1 q2 => xfl_q _ _ _ q1
  have ft0 : zft T T1 := fun q q1 q2 => a2 q q2
  have hC1 := zfp.circ hC fp0 ft0
  have e50' : xfl S 15 16 (-1) 50 = S 50 := fp0 50 (by decide) (by decide)
  obtain ⟨S2, T2, b1, b2, b3, b4, b5⟩ := p_pl1 (S 50 0).toNat 2000 2000 0 _ T1 hC1 (by
    refine ⟨fun t t0 t1 => ?_, fun c c0 c1 q => ?_, ?_⟩
    · rw [f15 t t0 t1, a3 t t0 t1 (Or.inl t0)]
      exact ⟨rfl, ⟨by omega, by rw [e50']; omega⟩, fun q => by omega⟩
    · have q : zi (0 ≤ xfl S 15 16 (-1) 7 c ∧ c < 0) = 1 := q
      rw [zi_f (by omega)] at q
      omega
    · rw [zsum_0 _ 16 (fun j j0 j1 => by rw [f15 j j0 (by omega)]; exact zi_f (by omega))]
      exact (zsum_le _ 10 (fun j _ _ => zi_01 _)).1) (by omega) (by rw [e50']; omega) (by omega) (by omega)
  have hC2 := zfp.circ hC1 b4 b5
  have e50'' : S2 50 = S 50 := by rw [b4 50 (by decide) (by decide), e50']
  have eg : (fun j => zi (0 ≤ S2 7 j ∧ j < S2 50 0)) = (fun j => zi ((0 ≤ S2 7 j ∧ j < S2 50 0) ∨ (0 ≤ j ∧ j < 0))) := by
    funext j
    by_cases q : 0 ≤ S2 7 j ∧ j < S2 50 0
    · rw [zi_t q, zi_t (Or.inl q)]
    · rw [zi_f q, zi_f (by omega)]
  rw [eg] at b3
  obtain ⟨S3, T3, c1, c2, c3, c4, c5⟩ := p_pl2 (S 50 0).toNat 2000 2000 0 0 S2 T2 hC2 b3 (by omega) (by rw [e50'']; omega) (by omega) (by omega) (by omega) (fun u u0 u1 => by omega)
  have e503 : S3 50 = S 50 := by rw [c4 50 (by decide) (by decide), e50'']
  refine ⟨S3, T1, T2, T3, ?_, a1, b2, c2, ?_, (fp0.tr b4).tr c4, (ft0.tr b5).tr c5⟩
  · unfold m_X3_putFirst
    rw [b1, xbs, c1, xbs]
  · obtain ⟨d1, d2, d3⟩ := c3
    rw [e503] at d1 d2
    refine ⟨fun t t0 t1 => ?_, fun c c0 c1 => d2 c c0 c1 (zi_t (Or.inr ⟨c0, c1⟩))⟩
    obtain ⟨x1, x2, x3⟩ := d1 t t0 t1
    exact ⟨x1, x2, fun q => (x3 q).1⟩
