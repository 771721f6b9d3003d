/-! longest: times in eighths -/
def qarr (o L τ : Int → Int) (p : Int) : Int := if o p < 0 then -8 else (if 16 ≤ o p then 0 else τ (o p)) + 3 * L p
def qlat (o L τ : Int → Int) (t : Int) : Int := max (max (max (-8) (qarr o L τ (t * 3 + 0))) (qarr o L τ (t * 3 + (0 + 1)))) (qarr o L τ (t * 3 + (0 + 1 + 1)))
def qnx (g o L τ : Int → Int) (t : Int) : Int := if g t = 0 then 5 + max 0 (qlat o L τ t) else 4
def zV (A τ : Int → Int) : Prop := ∀ t, 0 ≤ t → t < 16 → ∃ a : UInt64, A t = (a.toNat : Int) ∧ zD (τ t) a
def zM (τ : Int → Int) (M : Int) : Prop := ∀ t, 0 ≤ t → t < 16 → 0 ≤ τ t ∧ τ t ≤ M
def zO (o L : Int → Int) : Prop := ∀ p, 0 ≤ p → p < 52 → (-2 ≤ o p ∧ o p ≤ 19) ∧ 0 ≤ L p ∧ L p ≤ 128
def ysw (g o L τ : Int → Int) : Nat → Int → Int
  | 0 => τ
  | k + 1 => fun i => if i = (k : Int) then qnx g o L (ysw g o L τ k) k else ysw g o L τ k i
def yit (g o L : Int → Int) : Nat → Int → Int
  | 0 => fun _ => 0
  | n + 1 => ysw g o L (yit g o L n) 16
def yfix (g o L τ : Int → Int) : Prop := ∀ t, 0 ≤ t → t < 16 → τ t = qnx g o L τ t
theorem qarr_ext {o L τ σ : Int → Int} {p : Int} (h : 0 ≤ o p → o p < 16 → τ (o p) = σ (o p)) : qarr o L τ p = qarr o L σ p := by
  unfold qarr
  by_cases a : o p < 0
  · rw [if_pos a, if_pos a]
  · by_cases b : 16 ≤ o p
    · rw [if_neg a, if_neg a, if_pos b, if_pos b]
    · rw [if_neg a, if_neg a, if_neg b, if_neg b, h (by omega) (by omega)]
theorem qnx_ext {g o L τ σ : Int → Int} {t : Int} (h : g t = 0 → ∀ p, 0 ≤ p → p < 3 → 0 ≤ o (t * 3 + p) → o (t * 3 + p) < 16 → τ (o (t * 3 + p)) = σ (o (t * 3 + p))) : qnx g o L τ t = qnx g o L σ t := by
  unfold qnx
  by_cases a : g t = 0
  · rw [if_pos a, if_pos a]
    unfold qlat
    rw [qarr_ext (h a 0 (by decide) (by decide)), qarr_ext (h a (0 + 1) (by decide) (by decide)), qarr_ext (h a (0 + 1 + 1) (by decide) (by decide))]
  · rw [if_neg a, if_neg a]
theorem qarr_in {o L τ : Int → Int} {M p : Int} (hO : zO o L) (hM : zM τ M) (hM0 : 0 ≤ M) (hp : 0 ≤ p ∧ p < 52) : -8 ≤ qarr o L τ p ∧ qarr o L τ p ≤ M + 384 ∧ (qarr o L τ p < 0 → qarr o L τ p = -8) := by
  have ho := hO p hp.1 hp.2
  unfold qarr
  by_cases a : o p < 0
  · rw [if_pos a]
    omega
  · rw [if_neg a]
    by_cases b : 16 ≤ o p
    · rw [if_pos b]
      omega
    · rw [if_neg b]
      have := hM (o p) (by omega) (by omega)
      omega
theorem qlat_in {o L τ : Int → Int} {M t : Int} (hO : zO o L) (hM : zM τ M) (hM0 : 0 ≤ M) (ht : 0 ≤ t ∧ t < 16) : -8 ≤ qlat o L τ t ∧ qlat o L τ t ≤ M + 384 := by
  have a := qarr_in hO hM hM0 (p := t * 3 + 0) (by omega)
  have b := qarr_in hO hM hM0 (p := t * 3 + (0 + 1)) (by omega)
  have c := qarr_in hO hM hM0 (p := t * 3 + (0 + 1 + 1)) (by omega)
  unfold qlat
  omega
theorem qnx_in {g o L τ : Int → Int} {M t : Int} (hO : zO o L) (hM : zM τ M) (hM0 : 0 ≤ M) (ht : 0 ≤ t ∧ t < 16) : 4 ≤ qnx g o L τ t ∧ qnx g o L τ t ≤ M + 389 := by
  have a := qlat_in hO hM hM0 ht
  unfold qnx
  by_cases h : g t = 0
  · rw [if_pos h]
    omega
  · rw [if_neg h]
    omega
theorem ysw_ge {g o L τ : Int → Int} : ∀ (k : Nat) (i : Int), (k : Int) ≤ i → ysw g o L τ k i = τ i := by
  intro k
  induction k with
  | zero => exact fun i _ => rfl
  | succ k ih =>
    intro i hi
    show (if i = (k : Int) then _ else _) = _
    rw [if_neg (by omega)]
    exact ih i (by omega)
theorem ysw_in {g o L τ : Int → Int} {M : Int} (hO : zO o L) (hM : zM τ M) (hM0 : 0 ≤ M) : ∀ (k : Nat), k ≤ 16 → zM (ysw g o L τ k) (M + 400 * k) := by
  intro k
  induction k with
  | zero =>
    intro _ t h0 h1
    have := hM t h0 h1
    show 0 ≤ τ t ∧ τ t ≤ _
    omega
  | succ k ih =>
    intro hk t h0 h1
    have hk2 := ih (by omega)
    show 0 ≤ (if t = (k : Int) then _ else _) ∧ (if t = (k : Int) then _ else _) ≤ _
    by_cases a : t = (k : Int)
    · rw [if_pos a]
      have := qnx_in (g := g) hO hk2 (by omega) (t := (k : Int)) (by omega)
      omega
    · rw [if_neg a]
      have := hk2 t h0 h1
      omega
theorem yit_in {g o L : Int → Int} (hO : zO o L) : ∀ n : Nat, zM (yit g o L n) (6400 * n) := by
  intro n
  induction n with
  | zero =>
    intro t _ _
    show (0 : Int) ≤ 0 ∧ (0 : Int) ≤ _
    omega
  | succ n ih =>
    have := ysw_in (g := g) hO ih (by omega) 16 (by omega)
    intro t h0 h1
    have := this t h0 h1
    show 0 ≤ ysw g o L (yit g o L n) 16 t ∧ ysw g o L (yit g o L n) 16 t ≤ _
    omega
theorem ysw_fix {g o L τ : Int → Int} : ∀ k : Nat, (∀ t, 0 ≤ t → t < (k : Int) → τ t = qnx g o L τ t) → ysw g o L τ k = τ := by
  intro k
  induction k with
  | zero => exact fun _ => rfl
  | succ k ih =>
    intro h
    have e := ih (fun t h0 h1 => h t h0 (by omega))
    funext i
    show (if i = (k : Int) then qnx g o L (ysw g o L τ k) k else ysw g o L τ k i) = _
    rw [e]
    by_cases a : i = (k : Int)
    · rw [if_pos a, a]
      exact (h k (by omega) (by omega)).symm
    · rw [if_neg a]
theorem yit_fix {g o L : Int → Int} {n : Nat} (h : yfix g o L (yit g o L n)) : ∀ d : Nat, yit g o L (n + d) = yit g o L n := by
  intro d
  induction d with
  | zero => rfl
  | succ d ih =>
    show ysw g o L (yit g o L (n + d)) 16 = _
    rw [ih]
    exact ysw_fix 16 (fun t h0 h1 => h t h0 h1)
theorem ysw_reg {g o L τ : Int → Int} : ∀ (k : Nat) (t : Int), 0 ≤ t → t < (k : Int) → g t = 1 → ysw g o L τ k t = 4 := by
  intro k
  induction k with
  | zero =>
    intro t h0 h1
    omega
  | succ k ih =>
    intro t h0 h1 hg
    show (if t = (k : Int) then _ else _) = _
    by_cases a : t = (k : Int)
    · rw [if_pos a]
      unfold qnx
      rw [if_neg (by rw [← a]; omega)]
    · rw [if_neg a]
      exact ih t h0 (by omega) hg
/-! the class: arrival, latestPin -/
theorem p_orgX {S : xS} {p : Int} (hp : 0 ≤ p ∧ p < 52) : m_X5_originOf p S = some (S 29 p) := by
  unfold m_X5_originOf
  simp (disch := omega) only [xr, xck_t, xck_T, if_pos, if_neg, if_true, if_false, xbs, or_true, true_or, and_true, true_and]
theorem p_lenX {S : xS} {p : Int} (hp : 0 ≤ p ∧ p < 52) : m_X5_lengthOf p S = some (S 30 p) := by
  unfold m_X5_lengthOf
  simp (disch := omega) only [xr, xck_t, xck_T, if_pos, if_neg, if_true, if_false, xbs, or_true, true_or, and_true, true_and]
theorem zV_get {A τ : Int → Int} (h : zV A τ) {t : Int} (ht : 0 ≤ t ∧ t < 16) : zD (τ t) (UInt64.ofNat (A t).toNat) := by
  obtain ⟨a, e, d⟩ := h t ht.1 ht.2
  rw [e, Int.toNat_natCast, UInt64.ofNat_toNat]
  exact d
theorem zV_up {S : xS} {q : Nat} {τ : Int → Int} (h : zV (S q) τ) {t x : Int} {a : UInt64} (ha : zD x a) : zV ((xup S q t (a.toNat : Int)) q) (fun i => if i = t then x else τ i) := by
  intro i h0 h1
  by_cases c : i = t
  · subst c
    refine ⟨a, xup_s _ _ _ _, ?_⟩
    show zD (if i = i then _ else _) _
    rw [if_pos rfl]
    exact ha
  · obtain ⟨b, e, d⟩ := h i h0 h1
    refine ⟨b, by rw [xup_i _ _ _ c]; exact e, ?_⟩
    show zD (if i = t then _ else _) _
    rw [if_neg c]
    exact d
def zI (A τ : Int → Int) : Prop := ∀ t, 0 ≤ t → t < 16 → A t = τ t
theorem zI_up {S : xS} {q : Nat} {τ : Int → Int} (h : zI (S q) τ) (t x : Int) : zI ((xup S q t x) q) (fun i => if i = t then x else τ i) := by
  intro i h0 h1
  by_cases c : i = t
  · subst c
    rw [xup_s]
    exact (if_pos rfl).symm
  · rw [xup_i _ _ _ c, h i h0 h1]
    exact (if_neg c).symm
theorem p_imax (x y : Int) : xb_max x y = max x y := by
  unfold xb_max
  split <;> omega
theorem p_arrX {S : xS} {τ : Int → Int} {M p : Int} (hO : zO (S 29) (S 30)) (hV : zI (S 31) τ) (hM : zM τ M) (hM0 : 0 ≤ M ∧ M ≤ 1000000) (hp : 0 ≤ p ∧ p < 52) : m_X6_arrival p S = some (max (-1) (qarr (S 29) (S 30) τ p)) := by
  have ho := hO p hp.1 hp.2
  unfold m_X6_arrival qarr
  rw [p_orgX hp, xbs, p_lenX hp, xck_t ⟨by omega, by omega⟩]
  by_cases h0 : S 29 p < 0
  · rw [if_neg (by omega), if_pos h0, show max (-1) (-8 : Int) = -1 by omega]
  · by_cases h1 : 16 ≤ S 29 p
    · rw [if_pos (by omega), if_neg h0, if_pos h1, if_pos h1, xbs, xbs, show max (-1) (0 + 3 * S 30 p) = 0 + 3 * S 30 p by omega]
    · have hb := hM (S 29 p) (by omega) (by omega)
      rw [if_pos (by omega), if_neg h0, if_neg h1, if_neg h1, xck_t ⟨by omega, by omega⟩, xbs, xbs, hV _ (by omega) (by omega), show max (-1) (τ (S 29 p) + 3 * S 30 p) = τ (S 29 p) + 3 * S 30 p by omega]
theorem s_lp {S : xS} {t v a x : Int} (hv : 0 ≤ v ∧ v < 3) (ha : -1 ≤ a ∧ a ≤ 2000000) (hx : -1 ≤ x ∧ x ≤ 2000000) (e : m_X6_arrival (t * 3 + v) S = some x) (n : Nat) : m_X6_latestPin_L4 t S (n + 1) a v = m_X6_latestPin_L4 t S n (max a x) (v + 1) := by
  conv => lhs; unfold m_X6_latestPin_L4
  rw [xck_t ⟨by omega, by omega⟩, if_neg (by omega), e, xbs, xck_t ⟨⟨by omega, by omega⟩, ⟨by omega, by omega⟩⟩, p_imax]
theorem s_lpe {S : xS} {t v a : Int} (hv : v = 3) (n : Nat) : m_X6_latestPin_L4 t S (n + 1) a v = some a := by
  unfold m_X6_latestPin_L4
  simp (disch := omega) only [xr, xck_t, xck_T, if_pos, if_neg, if_true, if_false, xbs, or_true, true_or, and_true, true_and]
theorem p_latX {S : xS} {τ : Int → Int} {M t : Int} (hO : zO (S 29) (S 30)) (hV : zI (S 31) τ) (hM : zM τ M) (hM0 : 0 ≤ M ∧ M ≤ 1000000) (ht : 0 ≤ t ∧ t < 16) : m_X6_latestPin t S = some (max (-1) (qlat (S 29) (S 30) τ t)) := by
  have e0 := p_arrX hO hV hM hM0 (p := t * 3 + 0) (by omega)
  have e1 := p_arrX hO hV hM hM0 (p := t * 3 + (0 + 1)) (by omega)
  have e2 := p_arrX hO hV hM hM0 (p := t * 3 + (0 + 1 + 1)) (by omega)
  have b0 := qarr_in hO hM hM0.1 (p := t * 3 + 0) (by omega)
  have b1 := qarr_in hO hM hM0.1 (p := t * 3 + (0 + 1)) (by omega)
  have b2 := qarr_in hO hM hM0.1 (p := t * 3 + (0 + 1 + 1)) (by omega)
  unfold m_X6_latestPin
  rw [s_lp (by omega) (by omega) (by omega) e0 1999, s_lp (by omega) (by omega) (by omega) e1 1998, s_lp (by omega) (by omega) (by omega) e2 1997, s_lpe (by omega) 1996, xbs]
  unfold qlat
  congr 1
  omega
theorem p_known {S : xS} (hO : zO (S 29) (S 30)) (hK : ∀ t, 0 ≤ t → t < 16 → S 32 t = 0 ∨ S 32 t = 1) {t : Int} (ht : 0 ≤ t ∧ t < 16) : ∀ (d n : Nat) (v : Int), 0 ≤ v → v + d = 3 → d < n →
    (m_X6_pinsAreKnown_L2 t S n v = some (.inl ()) ∧ ∀ p, v ≤ p → p < 3 → 0 ≤ S 29 (t * 3 + p) → S 29 (t * 3 + p) < 16 → S 32 (S 29 (t * 3 + p)) = 1) ∨ (m_X6_pinsAreKnown_L2 t S n v = some (.inr 0) ∧ ∃ p, v ≤ p ∧ p < 3 ∧ 0 ≤ S 29 (t * 3 + p) ∧ S 29 (t * 3 + p) < 16 ∧ S 32 (S 29 (t * 3 + p)) = 0) := by
  intro d
  induction d with
  | zero =>
    intro n v h0 h1 h2
    obtain ⟨n, rfl⟩ : ∃ j, n = j + 1 := ⟨n - 1, by omega⟩
    left
    refine ⟨?_, fun p p0 p1 => by omega⟩
    unfold m_X6_pinsAreKnown_L2
    simp (disch := omega) only [xr, xck_t, xck_T, if_pos, if_neg, if_true, if_false, xbs, or_true, true_or, and_true, true_and]
  | succ d ih =>
    intro n v h0 h1 h2
    obtain ⟨n, rfl⟩ : ∃ j, n = j + 1 := ⟨n - 1, by omega⟩
    have ho := hO (t * 3 + v) (by omega) (by omega)
    have hi := ih n (v + 1) (by omega) (by omega) (by omega)
    unfold m_X6_pinsAreKnown_L2
    have next : (0 ≤ S 29 (t * 3 + v) → S 29 (t * 3 + v) < 16 → S 32 (S 29 (t * 3 + v)) = 1) → (m_X6_pinsAreKnown_L2 t S n (v + 1) = some (.inl ()) ∧ ∀ p, v ≤ p → p < 3 → 0 ≤ S 29 (t * 3 + p) → S 29 (t * 3 + p) < 16 → S 32 (S 29 (t * 3 + p)) = 1) ∨ (m_X6_pinsAreKnown_L2 t S n (v + 1) = some (.inr 0) ∧ ∃ p, v ≤ p ∧ p < 3 ∧ 0 ≤ S 29 (t * 3 + p) ∧ S 29 (t * 3 + p) < 16 ∧ S 32 (S 29 (t * 3 + p)) = 0) := by
      intro hk
      rcases hi with ⟨e, k⟩ | ⟨e, p, k0, k1⟩
      · left
        refine ⟨e, fun p p0 p1 => ?_⟩
        by_cases c : p = v
        · rw [c]
          exact hk
        · exact k p (by omega) p1
      · exact Or.inr ⟨e, p, by omega, k1⟩
    by_cases a : S 29 (t * 3 + v) < 0
    · simp (disch := omega) only [xr, xck_t, xck_T, if_pos, if_neg, if_true, if_false, xbs, or_true, true_or, and_true, true_and, p_orgX]
      exact next (fun h => by omega)
    · by_cases b : 16 ≤ S 29 (t * 3 + v)
      · simp (disch := omega) only [xr, xck_t, xck_T, if_pos, if_neg, if_true, if_false, xbs, or_true, true_or, and_true, true_and, p_orgX]
        exact next (fun _ h => by omega)
      · rcases hK (S 29 (t * 3 + v)) (by omega) (by omega) with c | c
        · right
          refine ⟨?_, v, by omega, by omega, by omega, by omega, c⟩
          simp (disch := omega) only [xr, xck_t, xck_T, if_pos, if_neg, if_true, if_false, xbs, or_true, true_or, and_true, true_and, p_orgX, c]
        · simp (disch := omega) only [xr, xck_t, xck_T, if_pos, if_neg, if_true, if_false, xbs, or_true, true_or, and_true, true_and, p_orgX, c]
          exact next (fun _ _ => c)
