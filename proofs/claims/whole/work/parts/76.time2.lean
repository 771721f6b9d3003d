/-! longest: the class's rounds beside the model's sweeps -/
def zC (g o L K α : Int → Int) : Prop := ∀ t, 0 ≤ t → t < 16 → (K t = 0 ∨ K t = 1) ∧ (g t = 1 → K t = 1) ∧ (K t = 1 → α t = qnx g o L α t ∧ (g t = 0 → ∀ p, 0 ≤ p → p < 3 → 0 ≤ o (t * 3 + p) → o (t * 3 + p) < 16 → K (o (t * 3 + p)) = 1))
def zStuck (g o K : Int → Int) (v t : Int) : Prop := v ≤ t → t < 16 → K t = 0 → g t = 0 ∧ ∃ p, 0 ≤ p ∧ p < 3 ∧ 0 ≤ o (t * 3 + p) ∧ o (t * 3 + p) < 16 ∧ K (o (t * 3 + p)) = 0
theorem zsum_ext (f h : Int → Int) : ∀ n : Nat, (∀ j : Int, 0 ≤ j → j < (n : Int) → f j = h j) → zsum f n = zsum h n := by
  intro n
  induction n with
  | zero => exact fun _ => rfl
  | succ n ih =>
    intro e
    show zsum f n + f n = zsum h n + h n
    rw [ih (fun j j0 j1 => e j j0 (by omega)), e n (by omega) (by omega)]
theorem p_swX {V T : xS} (hR : zRel V T) (hO : zO (V 29) (V 30)) (q : Int) (β : Int → Int) : ∀ (d n v : Nat) (left M : Int) (S : xS) (α : Int → Int), (∀ q, q ≠ 31 → q ≠ 32 → S q = V q) → v + d = 16 → d < n → 0 ≤ M → M + 400 * d ≤ 1000000 → zC (T 1) (V 29) (V 30) (S 32) α → zI (S 31) α → zM α M → left = 16 - zsum (S 32) 16 → (∀ t, 0 ≤ t → t < 16 → S 32 t = 1 → ysw (T 1) (V 29) (V 30) β v t = α t) →
    ∃ S1 α1 left1, m_X6_timeOutlets_L68 q n left v S = some (left1, S1) ∧ (∀ q, q ≠ 31 → q ≠ 32 → S1 q = V q) ∧ zC (T 1) (V 29) (V 30) (S1 32) α1 ∧ zI (S1 31) α1 ∧ zM α1 (M + 400 * d) ∧ left1 = 16 - zsum (S1 32) 16 ∧ (∀ t, 0 ≤ t → t < 16 → S1 32 t = 1 → ysw (T 1) (V 29) (V 30) β 16 t = α1 t) ∧ left1 ≤ left ∧ (left1 = left → S1 32 = S 32 ∧ ∀ t, zStuck (T 1) (V 29) (S 32) v t) ∧ ((∀ t, zStuck (T 1) (V 29) (S 32) v t) → left1 = left) := by
  intro d
  induction d with
  | zero =>
    intro n v left M S α hF hv hn hM0 hM1 hC hV hM hl hs
    obtain ⟨n, rfl⟩ : ∃ j, n = j + 1 := ⟨n - 1, by omega⟩
    have hv16 : v = 16 := by omega
    subst hv16
    refine ⟨S, α, left, ?_, hF, hC, hV, fun t h0 h1 => by have := hM t h0 h1; omega, hl, hs, by omega, fun _ => ⟨rfl, fun t h0 h1 => by omega⟩, fun _ => rfl⟩
    unfold m_X6_timeOutlets_L68
    simp (disch := omega) only [xr, xck_t, xck_T, if_pos, if_neg, if_true, if_false, xbs, or_true, true_or, and_true, true_and]
  | succ d ih =>
    intro n v left M S α hF hv hn hM0 hM1 hC hV hM hl hs
    obtain ⟨n, rfl⟩ : ∃ j, n = j + 1 := ⟨n - 1, by omega⟩
    have hvi : 0 ≤ (v : Int) ∧ (v : Int) < 16 := by omega
    have e29 : S 29 = V 29 := hF 29 (by decide) (by decide)
    have e30 : S 30 = V 30 := hF 30 (by decide) (by decide)
    have hO2 : zO (S 29) (S 30) := by
      rw [e29, e30]
      exact hO
    have hK : ∀ t, 0 ≤ t → t < 16 → S 32 t = 0 ∨ S 32 t = 1 := fun t h0 h1 => (hC t h0 h1).1
    have hc1 : ((v : Int) + 1) = ((v + 1 : Nat) : Int) := by omega
    have hlb := zsum_le (S 32) 16 (fun j j0 j1 => by have := hK j j0 (by omega); omega)
    have hg : T 1 v = 0 ∨ T 1 v = 1 := (p_reg hR hvi).2
    -- nothing happens at v
    have skip : (S 32 v = 1 ∨ (S 32 v = 0 ∧ T 1 v = 0 ∧ ∃ p, 0 ≤ p ∧ p < 3 ∧ 0 ≤ V 29 ((v : Int) * 3 + p) ∧ V 29 ((v : Int) * 3 + p) < 16 ∧ S 32 (V 29 ((v : Int) * 3 + p)) = 0)) →
        ∃ S1 α1 left1, m_X6_timeOutlets_L68 q n left ((v + 1 : Nat) : Int) S = some (left1, S1) ∧ (∀ q, q ≠ 31 → q ≠ 32 → S1 q = V q) ∧ zC (T 1) (V 29) (V 30) (S1 32) α1 ∧ zI (S1 31) α1 ∧ zM α1 (M + 400 * ((d + 1 : Nat) : Int)) ∧ left1 = 16 - zsum (S1 32) 16 ∧ (∀ t, 0 ≤ t → t < 16 → S1 32 t = 1 → ysw (T 1) (V 29) (V 30) β 16 t = α1 t) ∧ left1 ≤ left ∧ (left1 = left → S1 32 = S 32 ∧ ∀ t, zStuck (T 1) (V 29) (S 32) v t) ∧ ((∀ t, zStuck (T 1) (V 29) (S 32) v t) → left1 = left) := by
      intro hsk
      obtain ⟨S1, α1, left1, a1, a2, a3, a4, a5, a6, a7, a8, a9, a10⟩ := ih n (v + 1) left M S α hF (by omega) (by omega) hM0 (by omega) hC hV hM hl (by
        intro t h0 h1 hk
        show (if t = (v : Int) then _ else _) = _
        by_cases c : t = (v : Int)
        · rw [if_pos c, ← c]
          obtain ⟨b1, b2⟩ := (hC t h0 h1).2.2 hk
          rw [b1]
          refine qnx_ext (fun hg0 p p0 p1 o0 o1 => hs _ o0 o1 (b2 hg0 p p0 p1 o0 o1))
        · rw [if_neg c]
          exact hs t h0 h1 hk)
      refine ⟨S1, α1, left1, a1, a2, a3, a4, fun t h0 h1 => by have := a5 t h0 h1; omega, a6, a7, a8, fun he => ⟨(a9 he).1, fun t h0 h1 hk => ?_⟩, fun hz => a10 (fun t h0 h1 hk => hz t (by omega) h1 hk)⟩
      by_cases c : t = (v : Int)
      · rcases hsk with hsk | hsk
        · rw [c] at hk
          omega
        · rw [c]
          exact hsk.2
      · exact (a9 he).2 t (by omega) h1 hk
    unfold m_X6_timeOutlets_L68
    rcases hK v hvi.1 hvi.2 with hk | hk
    · rcases p_known hO2 hK hvi 3 2000 0 (by omega) (by omega) (by omega) with ⟨pe, pk⟩ | ⟨pe, pk⟩
      · -- v becomes known
        have e1 : m_X6_pinsAreKnown v S = some 1 := by
          unfold m_X6_pinsAreKnown
          rw [pe]
          rfl
        have ea := p_latX hO2 hV hM ⟨hM0, by omega⟩ hvi
        have hla := qlat_in hO2 hM hM0 hvi
        have hgv : T 1 v = 0 := by
          rcases hg with h | h
          · exact h
          · have := (hC v hvi.1 hvi.2).2.1 h
            omega
        have eq : 5 + xb_max 0 (max (-1) (qlat (S 29) (S 30) α v)) = qnx (T 1) (V 29) (V 30) α v := by
          unfold qnx
          rw [if_pos hgv, p_imax, e29, e30]
          omega
        have hin := qnx_in (g := T 1) hO hM hM0 hvi
        have hun : ∀ p, 0 ≤ p → p < 3 → 0 ≤ V 29 ((v : Int) * 3 + p) → V 29 ((v : Int) * 3 + p) < 16 → S 32 (V 29 ((v : Int) * 3 + p)) = 1 := by
          rw [← e29]
          exact fun p p0 p1 => pk p p0 p1
        obtain ⟨S1, α1, left1, a1, a2, a3, a4, a5, a6, a7, a8, a9, a10⟩ := ih n (v + 1) (left + -1) (M + 400) (xup (xup S 31 v (qnx (T 1) (V 29) (V 30) α v)) 32 v 1) (fun i => if i = (v : Int) then qnx (T 1) (V 29) (V 30) α v else α i)
          (fun q q1 q2 => by rw [xup_q _ _ _ q2, xup_q _ _ _ q1]; exact hF q q1 q2) (by omega) (by omega) (by omega) (by omega)
          (by
            intro t h0 h1
            have hsame : ∀ i : Int, i ≠ v → (xup (xup S 31 v (qnx (T 1) (V 29) (V 30) α v)) 32 v 1) 32 i = S 32 i := by
              intro i hi
              rw [xup_i _ _ _ hi, xup_q _ _ _ (by decide)]
            have hmono : ∀ i : Int, S 32 i = 1 → (xup (xup S 31 v (qnx (T 1) (V 29) (V 30) α v)) 32 v 1) 32 i = 1 := by
              intro i hi
              by_cases c : i = v
              · rw [c, xup_s]
              · rw [hsame i c, hi]
            have hext : ∀ t, (T 1 t = 0 → ∀ p, 0 ≤ p → p < 3 → 0 ≤ V 29 (t * 3 + p) → V 29 (t * 3 + p) < 16 → S 32 (V 29 (t * 3 + p)) = 1) → qnx (T 1) (V 29) (V 30) (fun i => if i = (v : Int) then qnx (T 1) (V 29) (V 30) α v else α i) t = qnx (T 1) (V 29) (V 30) α t := by
              intro t ht
              refine qnx_ext (fun g0 p p0 p1 o0 o1 => ?_)
              show (if _ = _ then _ else _) = _
              rw [if_neg]
              intro e
              have := ht g0 p p0 p1 o0 o1
              rw [e] at this
              omega
            by_cases c : t = v
            · subst c
              rw [xup_s]
              refine ⟨Or.inr rfl, fun _ => rfl, fun _ => ⟨?_, fun g0 p p0 p1 o0 o1 => ?_⟩⟩
              · show (if (v : Int) = v then _ else _) = _
                rw [if_pos rfl, hext _ (fun _ => hun)]
              · exact hmono _ (hun p p0 p1 o0 o1)
            · rw [hsame t c]
              obtain ⟨c1, c2, c3⟩ := hC t h0 h1
              refine ⟨c1, c2, fun hk => ⟨?_, fun g0 p p0 p1 o0 o1 => hmono _ ((c3 hk).2 g0 p p0 p1 o0 o1)⟩⟩
              show (if t = v then _ else _) = _
              rw [if_neg c, hext _ (c3 hk).2]
              exact (c3 hk).1)
          (by
            rw [xup_q _ _ _ (by decide : (31 : Nat) ≠ 32)]
            exact zI_up hV _ _)
          (by
            intro t h0 h1
            show 0 ≤ (if t = (v : Int) then _ else _) ∧ (if t = (v : Int) then _ else _) ≤ _
            by_cases c : t = (v : Int)
            · rw [if_pos c]
              omega
            · rw [if_neg c]
              have := hM t h0 h1
              omega)
          (by
            rw [zsum_up (S 32) _ v 16 hvi.1 (fun j hj => by rw [xup_i _ _ _ hj, xup_q _ _ _ (by decide)]), if_pos (by omega), xup_s]
            omega)
          (by
            intro t h0 h1 hk1
            show (if t = (v : Int) then _ else _) = (if t = (v : Int) then _ else _)
            by_cases c : t = (v : Int)
            · rw [if_pos c, if_pos c]
              exact qnx_ext (fun _ p p0 p1 o0 o1 => hs _ o0 o1 (hun p p0 p1 o0 o1))
            · rw [if_neg c, if_neg c]
              refine hs t h0 h1 ?_
              rw [xup_i _ _ _ c, xup_q _ _ _ (by decide)] at hk1
              exact hk1)
        refine ⟨S1, α1, left1, ?_, a2, a3, a4, fun t h0 h1 => by have := a5 t h0 h1; omega, a6, a7, by omega, fun he => by omega, fun hz => ?_⟩
        rotate_left
        · obtain ⟨_, p, p0, p1, o0, o1, hk0⟩ := hz v (by omega) hvi.2 hk
          have := hun p p0 p1 o0 o1
          omega
        simp (disch := omega) only [xr, xck_t, xck_T, if_pos, if_neg, if_true, if_false, xbs, or_true, true_or, and_true, true_and, e1, ea, eq]
        rw [hc1]
        exact a1
      · have e1 : m_X6_pinsAreKnown v S = some 0 := by
          unfold m_X6_pinsAreKnown
          rw [pe]
          rfl
        have hgv : T 1 v = 0 := by
          rcases hg with h | h
          · exact h
          · have := (hC v hvi.1 hvi.2).2.1 h
            omega
        simp (disch := omega) only [xr, xck_t, xck_T, if_pos, if_neg, if_true, if_false, xbs, or_true, true_or, and_true, true_and, e1]
        rw [hc1]
        refine skip (Or.inr ⟨hk, hgv, ?_⟩)
        rw [← e29]
        obtain ⟨p, p1⟩ := pk
        exact ⟨p, by omega, p1.2⟩
    · simp (disch := omega) only [xr, xck_t, xck_T, if_pos, if_neg, if_true, if_false, xbs, or_true, true_or, and_true, true_and]
      rw [hc1]
      exact skip (Or.inl hk)
