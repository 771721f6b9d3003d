/-! mirrors and contracts (by program: wip/whole/gen.py, mkparts.py) -/
def rmX4_growHistory : Room := { frames := 0, cells := 0, slots := 0, locals := 0 }
theorem hv_X4_growHistory : yX4_growHistory.cls = RX4 ∧ yX4_growHistory.cls ≠ "java/lang/invoke/MethodHandle" ∧ yX4_growHistory.cls ≠ "java/lang/invoke/VarHandle" ∧ (parseMethodDescriptor yX4_growHistory.desc).map (fun d => d.parameters.length) = some 0 := by decide +kernel
def m_X4_growHistory_L4 : Nat → Int → Int → xS → Option (Int × xS)
  | 0, _, _, _ => none
  | n + 1, v1, v2, S => xck (xr v2) (if 148 ≤ v2 then some (v1, S) else xck (0 ≤ v2 ∧ v2 < 148) ((xck (xr (S 17 v2)) (if (S 17 v2) ≤ 1 then some (v1, S) else some (1, (xup S 18 v2 ((S 18 v2) + ((S 17 v2) - 1)))))).bind (fun r4 => m_X4_growHistory_L4 n r4.1 (v2 + 1) r4.2)))
def m_X4_growHistory (S : xS) : Option (Int × xS) := (m_X4_growHistory_L4 2000 0 0 S).bind (fun r7 => xck (r7.1 = 0 ∨ r7.1 = 1) (some (r7.1, r7.2)))
set_option maxRecDepth 100000 in
set_option maxHeartbeats 4000000 in
theorem j_X4_growHistory_L4 {l : Launch} {D : va_G} {k : Nat → ClassId} {ad : Nat → Nat} {o : xO} {X : xX} (C : xC D k o X cX4_growHistory 3 RX4 wsX4_growHistory (some .boolean) rmX4_growHistory) : ∀ (n : Nat) (v1 : Int) (v2 : Int) (S : xS) (r : Int × xS), m_X4_growHistory_L4 n v1 v2 S = some r → (xJ l D k o X 3 46 [(1, .int (xi r.1))] [] (wX ad k r.2)) → xJ l D k o X 3 4 [(0, .ref (ad 39)), (1, .int (xi v1)), (2, .int (xi v2))] [] (wX ad k S) := by
  intro n
  induction n with
  | zero =>
    intro v1 v2 S r hM
    cases hM
  | succ n ih =>
    intro v1 v2 S r hM K
    unfold m_X4_growHistory_L4 at hM
    refine xj_iload_n C 2 dX4_growHistory_4 rfl rfl ?_
    refine xj_sipush C (n := 148) (by decide) dX4_growHistory_5 ?_
    obtain ⟨g1, hM⟩ := xck_some hM
    refine xj_icmp_ge C (tgt := 46) dX4_growHistory_8 (by decide) ⟨g1, (by decide)⟩ (fun c2 => ?_) (fun c2 => ?_)
    · have hM := xit hM c2
      obtain rfl := Option.some.inj hM
      refine xj_loc C [1] (L1 := [(1, .int (xi v1))]) rfl ?_
      exact K
    · have hM := xif hM c2
      refine xj_aload_n C 0 dX4_growHistory_11 rfl rfl ?_
      refine xj_get C (fun _ h => List.mem_cons_of_mem _ (List.mem_append_right _ h)) 39 (eX_39 ad k S) rfl 4 (by decide) (List.mem_of_getElem? (i := 1) rfl) (fun _ _ h => h) rfl dX4_growHistory_12 ?_
      refine xj_iload_n C 2 dX4_growHistory_15 rfl rfl ?_
      obtain ⟨g3, hM⟩ := xck_some hM
      refine xj_iald C 17 S 17 (eX_17 ad k S) (Nat.le_of_ble_eq_true rfl) g3 dX4_growHistory_16 ?_
      refine xj_iconst C dX4_growHistory_17 ?_
      obtain ⟨r4, hRr4, hM⟩ := xbd hM
      have Kr4 : xJ l D k o X 3 40 [(0, .ref (ad 39)), (1, .int (xi r4.1)), (2, .int (xi v2))] [] (wX ad k r4.2) := by
        refine xj_iinc C 2 (L1 := [(2, .int (xi (v2 + 1))), (0, .ref (ad 39)), (1, .int (xi r4.1))]) dX4_growHistory_40 rfl (by decide) rfl ?_
        refine xj_goto C (tgt := 4) dX4_growHistory_43 (by decide) ?_
        refine xj_loc C [1, 2, 0] (L1 := [(0, .ref (ad 39)), (1, .int (xi r4.1)), (2, .int (xi (v2 + 1)))]) rfl ?_
        exact ih _ _ _ _ hM K
      clear hM
      have hM := hRr4
      obtain ⟨g5, hM⟩ := xck_some hM
      refine xj_icmp_le C (tgt := 40) dX4_growHistory_18 (by decide) ⟨g5, (by decide)⟩ (fun c6 => ?_) (fun c6 => ?_)
      · have hM := xit hM c6
        obtain rfl := Option.some.inj hM
        exact Kr4
      · have hM := xif hM c6
        refine xj_aload_n C 0 dX4_growHistory_21 rfl rfl ?_
        refine xj_get C (fun _ h => List.mem_cons_of_mem _ (List.mem_append_right _ h)) 39 (eX_39 ad k S) rfl 5 (by decide) (List.mem_of_getElem? (i := 2) rfl) (fun _ _ h => h) rfl dX4_growHistory_22 ?_
        refine xj_iload_n C 2 dX4_growHistory_25 rfl rfl ?_
        refine xj_dup2 C rfl rfl dX4_growHistory_26 ?_
        refine xj_iald C 18 S 18 (eX_18 ad k S) (Nat.le_of_ble_eq_true rfl) g3 dX4_growHistory_27 ?_
        refine xj_aload_n C 0 dX4_growHistory_28 rfl rfl ?_
        refine xj_get C (fun _ h => List.mem_cons_of_mem _ (List.mem_append_right _ h)) 39 (eX_39 ad k S) rfl 4 (by decide) (List.mem_of_getElem? (i := 1) rfl) (fun _ _ h => h) rfl dX4_growHistory_29 ?_
        refine xj_iload_n C 2 dX4_growHistory_32 rfl rfl ?_
        refine xj_iald C 17 S 17 (eX_17 ad k S) (Nat.le_of_ble_eq_true rfl) g3 dX4_growHistory_33 ?_
        refine xj_iconst C dX4_growHistory_34 ?_
        refine xj_isub C dX4_growHistory_35 ?_
        refine xj_iadd C dX4_growHistory_36 ?_
        refine xj_iast C 18 S 18 (eX_18 ad k S) (Nat.le_of_ble_eq_true rfl) g3 (sX_18 ad k S v2 ((S 18 v2) + ((S 17 v2) - 1))) dX4_growHistory_37 ?_
        refine xj_iconst C dX4_growHistory_38 ?_
        refine xj_istore_n C (L1 := [(1, .int (xi 1)), (0, .ref (ad 39)), (2, .int (xi v2))]) dX4_growHistory_39 rfl (by decide) rfl ?_
        obtain rfl := Option.some.inj hM
        refine xj_loc C [1, 0, 2] (L1 := [(0, .ref (ad 39)), (1, .int (xi 1)), (2, .int (xi v2))]) rfl ?_
        exact Kr4
set_option maxRecDepth 100000 in
set_option maxHeartbeats 4000000 in
theorem c_X4_growHistory {l : Launch} {D : va_G} {k : Nat → ClassId} {ad : Nat → Nat} {S : xS} {res : Int × xS} (hM : m_X4_growHistory S = some res) : xM l yX4_growHistory wsX4_growHistory rmX4_growHistory D k [.ref (ad 39)] (wX ad k S) (some (.int (xi res.1))) (wX ad k res.2) := by
  refine xM_of (ret := (some .boolean)) (by decide) rfl (Nat.le_of_ble_eq_true rfl) (fun X C => ?_)
  have C : xC D k (xo X D k (some (.int (xi res.1))) (wX ad k res.2)) X cX4_growHistory 3 RX4 wsX4_growHistory (some .boolean) rmX4_growHistory := C
  show xJ l D k (xo X D k (some (.int (xi res.1))) (wX ad k res.2)) X 3 0 [(0, .ref (ad 39))] [] (wX ad k S)
  unfold m_X4_growHistory at hM
  refine xj_iconst C dX4_growHistory_0 ?_
  refine xj_istore_n C (L1 := [(1, .int (xi 0)), (0, .ref (ad 39))]) dX4_growHistory_1 rfl (by decide) rfl ?_
  refine xj_iconst C dX4_growHistory_2 ?_
  refine xj_istore_n C (L1 := [(2, .int (xi 0)), (1, .int (xi 0)), (0, .ref (ad 39))]) dX4_growHistory_3 rfl (by decide) rfl ?_
  obtain ⟨r7, hLr7, hM⟩ := xbd hM
  refine xj_loc C [2, 1, 0] (L1 := [(0, .ref (ad 39)), (1, .int (xi 0)), (2, .int (xi 0))]) rfl ?_
  refine j_X4_growHistory_L4 C _ _ _ _ _ hLr7 ?_
  refine xj_iload_n C 0 dX4_growHistory_46 rfl rfl ?_
  obtain ⟨g8, hM⟩ := xck_some hM
  obtain rfl := Option.some.inj hM
  exact xj_zret g8 C rfl dX4_growHistory_47
def rmX4_isNearer : Room := { frames := 0, cells := 0, slots := 0, locals := 0 }
theorem hv_X4_isNearer : yX4_isNearer.cls = RX4 ∧ yX4_isNearer.cls ≠ "java/lang/invoke/MethodHandle" ∧ yX4_isNearer.cls ≠ "java/lang/invoke/VarHandle" ∧ (parseMethodDescriptor yX4_isNearer.desc).map (fun d => d.parameters.length) = some 2 := by decide +kernel
def m_X4_isNearer (p1 : Int) (p2 : Int) (S : xS) : Option (Int) := xck (0 ≤ p1 ∧ p1 < 148) (xck (0 ≤ p2 ∧ p2 < 148) (xck (xr ((S 20 p1) - (S 20 p2))) (if ((S 20 p1) - (S 20 p2)) < 0 then some 1 else (if ((S 20 p1) - (S 20 p2)) = 0 then xck (xr p1 ∧ xr p2) (if p2 ≤ p1 then some 0 else some 1) else some 0))))
set_option maxRecDepth 100000 in
set_option maxHeartbeats 4000000 in
theorem c_X4_isNearer {l : Launch} {D : va_G} {k : Nat → ClassId} {ad : Nat → Nat} {S : xS} {p1 : Int} {p2 : Int} {res : Int} (hM : m_X4_isNearer p1 p2 S = some res) : xM l yX4_isNearer wsX4_isNearer rmX4_isNearer D k [.ref (ad 39), .int (xi p1), .int (xi p2)] (wX ad k S) (some (.int (xi res))) (wX ad k S) := by
  refine xM_of (ret := (some .boolean)) (by decide) rfl (Nat.le_of_ble_eq_true rfl) (fun X C => ?_)
  have C : xC D k (xo X D k (some (.int (xi res))) (wX ad k S)) X cX4_isNearer 4 RX4 wsX4_isNearer (some .boolean) rmX4_isNearer := C
  show xJ l D k (xo X D k (some (.int (xi res))) (wX ad k S)) X 4 0 [(0, .ref (ad 39)), (1, .int (xi p1)), (2, .int (xi p2))] [] (wX ad k S)
  unfold m_X4_isNearer at hM
  refine xj_aload_n C 0 dX4_isNearer_0 rfl rfl ?_
  refine xj_get C (fun _ h => List.mem_cons_of_mem _ (List.mem_append_right _ h)) 39 (eX_39 ad k S) rfl 7 (by decide) (List.mem_of_getElem? (i := 1) rfl) (fun _ _ h => h) rfl dX4_isNearer_1 ?_
  refine xj_iload_n C 1 dX4_isNearer_4 rfl rfl ?_
  obtain ⟨g1, hM⟩ := xck_some hM
  refine xj_iald C 20 S 20 (eX_20 ad k S) (Nat.le_of_ble_eq_true rfl) g1 dX4_isNearer_5 ?_
  refine xj_aload_n C 0 dX4_isNearer_6 rfl rfl ?_
  refine xj_get C (fun _ h => List.mem_cons_of_mem _ (List.mem_append_right _ h)) 39 (eX_39 ad k S) rfl 7 (by decide) (List.mem_of_getElem? (i := 1) rfl) (fun _ _ h => h) rfl dX4_isNearer_7 ?_
  refine xj_iload_n C 2 dX4_isNearer_10 rfl rfl ?_
  obtain ⟨g2, hM⟩ := xck_some hM
  refine xj_iald C 20 S 20 (eX_20 ad k S) (Nat.le_of_ble_eq_true rfl) g2 dX4_isNearer_11 ?_
  refine xj_isub C dX4_isNearer_12 ?_
  refine xj_istore_n C (L1 := [(3, .int (xi ((S 20 p1) - (S 20 p2)))), (0, .ref (ad 39)), (1, .int (xi p1)), (2, .int (xi p2))]) dX4_isNearer_13 rfl (by decide) rfl ?_
  refine xj_iload_n C 0 dX4_isNearer_14 rfl rfl ?_
  obtain ⟨g3, hM⟩ := xck_some hM
  refine xj_if_lt C (tgt := 27) dX4_isNearer_15 (by decide) g3 (fun c4 => ?_) (fun c4 => ?_)
  · have hM := xit hM c4
    refine xj_iconst C dX4_isNearer_27 ?_
    refine xj_goto C (tgt := 32) dX4_isNearer_28 (by decide) ?_
    obtain rfl := Option.some.inj hM
    exact xj_zret (Or.inr rfl) C rfl dX4_isNearer_32
  · have hM := xif hM c4
    refine xj_iload_n C 0 dX4_isNearer_18 rfl rfl ?_
    refine xj_if_ne C (tgt := 31) dX4_isNearer_19 (by decide) g3 (fun c5 => ?_) (fun c5 => ?_)
    · have hM := xif hM c5
      refine xj_iconst C dX4_isNearer_31 ?_
      obtain rfl := Option.some.inj hM
      exact xj_zret (Or.inl rfl) C rfl dX4_isNearer_32
    · have hM := xit hM c5
      refine xj_iload_n C 2 dX4_isNearer_22 rfl rfl ?_
      refine xj_iload_n C 3 dX4_isNearer_23 rfl rfl ?_
      obtain ⟨g6, hM⟩ := xck_some hM
      refine xj_icmp_ge C (tgt := 31) dX4_isNearer_24 (by decide) ⟨g6.1, g6.2⟩ (fun c7 => ?_) (fun c7 => ?_)
      · have hM := xit hM c7
        refine xj_iconst C dX4_isNearer_31 ?_
        obtain rfl := Option.some.inj hM
        exact xj_zret (Or.inl rfl) C rfl dX4_isNearer_32
      · have hM := xif hM c7
        refine xj_iconst C dX4_isNearer_27 ?_
        refine xj_goto C (tgt := 32) dX4_isNearer_28 (by decide) ?_
        obtain rfl := Option.some.inj hM
        exact xj_zret (Or.inr rfl) C rfl dX4_isNearer_32
def rmX4_switchPin : Room := { frames := 1, cells := 0, slots := 0, locals := 23 }
theorem hv_X4_switchPin : yX4_switchPin.cls = RX4 ∧ yX4_switchPin.cls ≠ "java/lang/invoke/MethodHandle" ∧ yX4_switchPin.cls ≠ "java/lang/invoke/VarHandle" ∧ (parseMethodDescriptor yX4_switchPin.desc).map (fun d => d.parameters.length) = some 2 := by decide +kernel
def m_X4_switchPin_L5 (p1 : Int) (p2 : Int) : Nat → Int → Int → xS → Option (Int × xS)
  | 0, _, _, _ => none
  | n + 1, v3, v4, S => xck (xr v4) (if 10 ≤ v4 then some (v3, S) else (m_X1_beforePin p1 v4 S).bind (fun r3 => (xck (xr r3) (if r3 = (-1) then some (v3, S) else xck (xr v3) (if v3 = (-1) then xck (0 ≤ ((p1 * 3) + p2) ∧ ((p1 * 3) + p2) < 48) (some (r3, (xup S 23 ((p1 * 3) + p2) v4))) else (m_X4_isNearer r3 v3 S).bind (fun r10 => xck (xr r10) (if r10 = 0 then some (v3, S) else xck (0 ≤ ((p1 * 3) + p2) ∧ ((p1 * 3) + p2) < 48) (some (r3, (xup S 23 ((p1 * 3) + p2) v4)))))))).bind (fun r4 => m_X4_switchPin_L5 p1 p2 n r4.1 (v4 + 1) r4.2)))
def m_X4_switchPin (p1 : Int) (p2 : Int) (S : xS) : Option (Int × xS) := (m_X4_switchPin_L5 p1 p2 2000 (-1) 1 S).bind (fun r14 => some (r14.1, r14.2))
set_option maxRecDepth 100000 in
set_option maxHeartbeats 4000000 in
theorem j_X4_switchPin_L5 {l : Launch} {D : va_G} {k : Nat → ClassId} {ad : Nat → Nat} {o : xO} {X : xX} (C : xC D k o X cX4_switchPin 6 RX4 wsX4_switchPin (some .int) rmX4_switchPin) (p1 : Int) (p2 : Int) : ∀ (n : Nat) (v3 : Int) (v4 : Int) (S : xS) (r : Int × xS), m_X4_switchPin_L5 p1 p2 n v3 v4 S = some r → (xJ l D k o X 6 66 [(3, .int (xi r.1))] [] (wX ad k r.2)) → xJ l D k o X 6 5 [(0, .ref (ad 39)), (1, .int (xi p1)), (2, .int (xi p2)), (3, .int (xi v3)), (4, .int (xi v4))] [] (wX ad k S) := by
  intro n
  induction n with
  | zero =>
    intro v3 v4 S r hM
    cases hM
  | succ n ih =>
    intro v3 v4 S r hM K
    unfold m_X4_switchPin_L5 at hM
    refine xj_iload C 4 dX4_switchPin_5 rfl ?_
    refine xj_bipush C (n := 10) (by decide) dX4_switchPin_7 ?_
    obtain ⟨g1, hM⟩ := xck_some hM
    refine xj_icmp_ge C (tgt := 66) dX4_switchPin_9 (by decide) ⟨g1, (by decide)⟩ (fun c2 => ?_) (fun c2 => ?_)
    · have hM := xit hM c2
      obtain rfl := Option.some.inj hM
      refine xj_loc C [3] (L1 := [(3, .int (xi v3))]) rfl ?_
      exact K
    · have hM := xif hM c2
      refine xj_aload_n C 0 dX4_switchPin_12 rfl rfl ?_
      refine xj_get C (fun _ h => List.mem_cons_of_mem _ (List.mem_append_left _ (List.mem_append_right _ h))) 39 (eX_39 ad k S) rfl 0 (by decide) (List.mem_of_getElem? (i := 1) rfl) (fun _ _ h => h) rfl dX4_switchPin_13 ?_
      refine xj_iload_n C 1 dX4_switchPin_16 rfl rfl ?_
      refine xj_iload C 4 dX4_switchPin_17 rfl ?_
      obtain ⟨r3, hRr3, hM⟩ := xbd hM
      refine xj_callV C [.int (xi p1), .int (xi v4)] [] 2 (c_X1_beforePin hRr3) gX4_switchPin_X1_beforePin rfl ⟨rfl, rfl⟩ hv_X1_beforePin ⟨Nat.le_of_ble_eq_true rfl, Nat.le_of_ble_eq_true rfl⟩ 36 (eX_36 ad k _) rfl rfl (Nat.le_of_ble_eq_true rfl) dX4_switchPin_19 ?_
      refine xj_istore C (L1 := [(5, .int (xi r3)), (0, .ref (ad 39)), (1, .int (xi p1)), (2, .int (xi p2)), (3, .int (xi v3)), (4, .int (xi v4))]) dX4_switchPin_22 (by decide) rfl ?_
      refine xj_iload C 0 dX4_switchPin_24 rfl ?_
      refine xj_iconst C dX4_switchPin_26 ?_
      obtain ⟨r4, hRr4, hM⟩ := xbd hM
      have Kr4 : xJ l D k o X 6 60 [(0, .ref (ad 39)), (1, .int (xi p1)), (2, .int (xi p2)), (3, .int (xi r4.1)), (4, .int (xi v4))] [] (wX ad k r4.2) := by
        refine xj_iinc C 4 (L1 := [(4, .int (xi (v4 + 1))), (0, .ref (ad 39)), (1, .int (xi p1)), (2, .int (xi p2)), (3, .int (xi r4.1))]) dX4_switchPin_60 rfl (by decide) rfl ?_
        refine xj_goto C (tgt := 5) dX4_switchPin_63 (by decide) ?_
        refine xj_loc C [1, 2, 3, 4, 0] (L1 := [(0, .ref (ad 39)), (1, .int (xi p1)), (2, .int (xi p2)), (3, .int (xi r4.1)), (4, .int (xi (v4 + 1)))]) rfl ?_
        exact ih _ _ _ _ hM K
      clear hM
      have hM := hRr4
      obtain ⟨g5, hM⟩ := xck_some hM
      refine xj_icmp_eq C (tgt := 60) dX4_switchPin_27 (by decide) ⟨g5, (by decide)⟩ (fun c6 => ?_) (fun c6 => ?_)
      · have hM := xit hM c6
        obtain rfl := Option.some.inj hM
        refine xj_loc C [1, 2, 3, 4, 5] (L1 := [(0, .ref (ad 39)), (1, .int (xi p1)), (2, .int (xi p2)), (3, .int (xi v3)), (4, .int (xi v4))]) rfl ?_
        exact Kr4
      · have hM := xif hM c6
        refine xj_iload_n C 4 dX4_switchPin_30 rfl rfl ?_
        refine xj_iconst C dX4_switchPin_31 ?_
        obtain ⟨g7, hM⟩ := xck_some hM
        refine xj_icmp_eq C (tgt := 45) dX4_switchPin_32 (by decide) ⟨g7, (by decide)⟩ (fun c8 => ?_) (fun c8 => ?_)
        · have hM := xit hM c8
          refine xj_iload C 0 dX4_switchPin_45 rfl ?_
          refine xj_istore_n C (L1 := [(3, .int (xi r3)), (5, .int (xi r3)), (0, .ref (ad 39)), (1, .int (xi p1)), (2, .int (xi p2)), (4, .int (xi v4))]) dX4_switchPin_47 rfl (by decide) rfl ?_
          refine xj_aload_n C 2 dX4_switchPin_48 rfl rfl ?_
          refine xj_get C (fun _ h => List.mem_cons_of_mem _ (List.mem_append_left _ (List.mem_append_right _ h))) 39 (eX_39 ad k S) rfl 10 (by decide) (List.mem_of_getElem? (i := 2) rfl) (fun _ _ h => h) rfl dX4_switchPin_49 ?_
          refine xj_iload_n C 3 dX4_switchPin_52 rfl rfl ?_
          refine xj_iconst C dX4_switchPin_53 ?_
          refine xj_imul C dX4_switchPin_54 ?_
          refine xj_iload_n C 4 dX4_switchPin_55 rfl rfl ?_
          refine xj_iadd C dX4_switchPin_56 ?_
          refine xj_iload C 5 dX4_switchPin_57 rfl ?_
          obtain ⟨g9, hM⟩ := xck_some hM
          refine xj_iast C 23 S 23 (eX_23 ad k S) (Nat.le_of_ble_eq_true rfl) g9 (sX_23 ad k S ((p1 * 3) + p2) v4) dX4_switchPin_59 ?_
          obtain rfl := Option.some.inj hM
          refine xj_loc C [2, 3, 4, 0, 5] (L1 := [(0, .ref (ad 39)), (1, .int (xi p1)), (2, .int (xi p2)), (3, .int (xi r3)), (4, .int (xi v4))]) rfl ?_
          exact Kr4
        · have hM := xif hM c8
          refine xj_aload_n C 1 dX4_switchPin_35 rfl rfl ?_
          refine xj_iload C 0 dX4_switchPin_36 rfl ?_
          refine xj_iload_n C 4 dX4_switchPin_38 rfl rfl ?_
          obtain ⟨r10, hRr10, hM⟩ := xbd hM
          refine xj_callV C [.int (xi r3), .int (xi v3)] [] 2 (c_X4_isNearer hRr10) gX4_switchPin_X4_isNearer rfl ⟨rfl, rfl⟩ hv_X4_isNearer ⟨Nat.le_of_ble_eq_true rfl, Nat.le_of_ble_eq_true rfl⟩ 39 (eX_39 ad k _) rfl rfl (Nat.le_of_ble_eq_true rfl) dX4_switchPin_39 ?_
          obtain ⟨g11, hM⟩ := xck_some hM
          refine xj_if_eq C (tgt := 60) dX4_switchPin_42 (by decide) g11 (fun c12 => ?_) (fun c12 => ?_)
          · have hM := xit hM c12
            obtain rfl := Option.some.inj hM
            refine xj_loc C [1, 2, 3, 4, 5] (L1 := [(0, .ref (ad 39)), (1, .int (xi p1)), (2, .int (xi p2)), (3, .int (xi v3)), (4, .int (xi v4))]) rfl ?_
            exact Kr4
          · have hM := xif hM c12
            refine xj_iload C 0 dX4_switchPin_45 rfl ?_
            refine xj_istore_n C (L1 := [(3, .int (xi r3)), (5, .int (xi r3)), (0, .ref (ad 39)), (1, .int (xi p1)), (2, .int (xi p2)), (4, .int (xi v4))]) dX4_switchPin_47 rfl (by decide) rfl ?_
            refine xj_aload_n C 2 dX4_switchPin_48 rfl rfl ?_
            refine xj_get C (fun _ h => List.mem_cons_of_mem _ (List.mem_append_left _ (List.mem_append_right _ h))) 39 (eX_39 ad k S) rfl 10 (by decide) (List.mem_of_getElem? (i := 2) rfl) (fun _ _ h => h) rfl dX4_switchPin_49 ?_
            refine xj_iload_n C 3 dX4_switchPin_52 rfl rfl ?_
            refine xj_iconst C dX4_switchPin_53 ?_
            refine xj_imul C dX4_switchPin_54 ?_
            refine xj_iload_n C 4 dX4_switchPin_55 rfl rfl ?_
            refine xj_iadd C dX4_switchPin_56 ?_
            refine xj_iload C 5 dX4_switchPin_57 rfl ?_
            obtain ⟨g13, hM⟩ := xck_some hM
            refine xj_iast C 23 S 23 (eX_23 ad k S) (Nat.le_of_ble_eq_true rfl) g13 (sX_23 ad k S ((p1 * 3) + p2) v4) dX4_switchPin_59 ?_
            obtain rfl := Option.some.inj hM
            refine xj_loc C [2, 3, 4, 0, 5] (L1 := [(0, .ref (ad 39)), (1, .int (xi p1)), (2, .int (xi p2)), (3, .int (xi r3)), (4, .int (xi v4))]) rfl ?_
            exact Kr4
set_option maxRecDepth 100000 in
set_option maxHeartbeats 4000000 in
theorem c_X4_switchPin {l : Launch} {D : va_G} {k : Nat → ClassId} {ad : Nat → Nat} {S : xS} {p1 : Int} {p2 : Int} {res : Int × xS} (hM : m_X4_switchPin p1 p2 S = some res) : xM l yX4_switchPin wsX4_switchPin rmX4_switchPin D k [.ref (ad 39), .int (xi p1), .int (xi p2)] (wX ad k S) (some (.int (xi res.1))) (wX ad k res.2) := by
  refine xM_of (ret := (some .int)) (by decide) rfl (Nat.le_of_ble_eq_true rfl) (fun X C => ?_)
  have C : xC D k (xo X D k (some (.int (xi res.1))) (wX ad k res.2)) X cX4_switchPin 6 RX4 wsX4_switchPin (some .int) rmX4_switchPin := C
  show xJ l D k (xo X D k (some (.int (xi res.1))) (wX ad k res.2)) X 6 0 [(0, .ref (ad 39)), (1, .int (xi p1)), (2, .int (xi p2))] [] (wX ad k S)
  unfold m_X4_switchPin at hM
  refine xj_iconst C dX4_switchPin_0 ?_
  refine xj_istore_n C (L1 := [(3, .int (xi (-1))), (0, .ref (ad 39)), (1, .int (xi p1)), (2, .int (xi p2))]) dX4_switchPin_1 rfl (by decide) rfl ?_
  refine xj_iconst C dX4_switchPin_2 ?_
  refine xj_istore C (L1 := [(4, .int (xi 1)), (3, .int (xi (-1))), (0, .ref (ad 39)), (1, .int (xi p1)), (2, .int (xi p2))]) dX4_switchPin_3 (by decide) rfl ?_
  obtain ⟨r14, hLr14, hM⟩ := xbd hM
  refine xj_loc C [2, 3, 4, 1, 0] (L1 := [(0, .ref (ad 39)), (1, .int (xi p1)), (2, .int (xi p2)), (3, .int (xi (-1))), (4, .int (xi 1))]) rfl ?_
  refine j_X4_switchPin_L5 C p1 p2 _ _ _ _ _ hLr14 ?_
  refine xj_iload_n C 0 dX4_switchPin_66 rfl rfl ?_
  obtain rfl := Option.some.inj hM
  exact xj_iret C rfl dX4_switchPin_67
def rmX4_endOfWay : Room := { frames := 2, cells := 0, slots := 0, locals := 48 }
theorem hv_X4_endOfWay : yX4_endOfWay.cls = RX4 ∧ yX4_endOfWay.cls ≠ "java/lang/invoke/MethodHandle" ∧ yX4_endOfWay.cls ≠ "java/lang/invoke/VarHandle" ∧ (parseMethodDescriptor yX4_endOfWay.desc).map (fun d => d.parameters.length) = some 1 := by decide +kernel
def m_X4_endOfWay (p1 : Int) (S : xS) : Option (Int × xS) := xck (xr p1) (if 30 ≤ p1 then (m_X1_outputWire (p1 - 30)).bind (fun r3 => some (r3, S)) else (m_X3_siteOfSink p1 S).bind (fun r4 => xck (0 ≤ p1 ∧ p1 ≤ 2147483647) ((m_X4_switchPin r4 (p1 % 3) S).bind (fun r6 => some (r6.1, r6.2)))))
set_option maxRecDepth 100000 in
set_option maxHeartbeats 4000000 in
theorem c_X4_endOfWay {l : Launch} {D : va_G} {k : Nat → ClassId} {ad : Nat → Nat} {S : xS} {p1 : Int} {res : Int × xS} (hM : m_X4_endOfWay p1 S = some res) : xM l yX4_endOfWay wsX4_endOfWay rmX4_endOfWay D k [.ref (ad 39), .int (xi p1)] (wX ad k S) (some (.int (xi res.1))) (wX ad k res.2) := by
  refine xM_of (ret := (some .int)) (by decide) rfl (Nat.le_of_ble_eq_true rfl) (fun X C => ?_)
  have C : xC D k (xo X D k (some (.int (xi res.1))) (wX ad k res.2)) X cX4_endOfWay 2 RX4 wsX4_endOfWay (some .int) rmX4_endOfWay := C
  show xJ l D k (xo X D k (some (.int (xi res.1))) (wX ad k res.2)) X 2 0 [(0, .ref (ad 39)), (1, .int (xi p1))] [] (wX ad k S)
  unfold m_X4_endOfWay at hM
  refine xj_iload_n C 1 dX4_endOfWay_0 rfl rfl ?_
  refine xj_bipush C (n := 30) (by decide) dX4_endOfWay_1 ?_
  obtain ⟨g1, hM⟩ := xck_some hM
  refine xj_icmp_ge C (tgt := 22) dX4_endOfWay_3 (by decide) ⟨g1, (by decide)⟩ (fun c2 => ?_) (fun c2 => ?_)
  · have hM := xit hM c2
    refine xj_iload_n C 1 dX4_endOfWay_22 rfl rfl ?_
    refine xj_bipush C (n := 30) (by decide) dX4_endOfWay_23 ?_
    refine xj_isub C dX4_endOfWay_25 ?_
    obtain ⟨r3, hRr3, hM⟩ := xbd hM
    refine xj_callS C [.int (xi (p1 - 30))] [] 1 (c_X1_outputWire hRr3) gX4_endOfWay_X1_outputWire rfl ⟨rfl, rfl⟩ hv_X1_outputWire ⟨Nat.le_of_ble_eq_true rfl, Nat.le_of_ble_eq_true rfl⟩ rfl (Nat.le_of_ble_eq_true rfl) dX4_endOfWay_26 ?_
    obtain rfl := Option.some.inj hM
    exact xj_iret C rfl dX4_endOfWay_29
  · have hM := xif hM c2
    refine xj_aload_n C 0 dX4_endOfWay_6 rfl rfl ?_
    refine xj_aload_n C 0 dX4_endOfWay_7 rfl rfl ?_
    refine xj_get C (fun _ h => List.mem_cons_of_mem _ (List.mem_append_left _ (List.mem_append_left _ (List.mem_append_right _ h)))) 39 (eX_39 ad k S) rfl 2 (by decide) (List.mem_of_getElem? (i := 1) rfl) (fun _ _ h => h) rfl dX4_endOfWay_8 ?_
    refine xj_iload_n C 1 dX4_endOfWay_11 rfl rfl ?_
    obtain ⟨r4, hRr4, hM⟩ := xbd hM
    refine xj_callV C [.int (xi p1)] [.ref (ad 39)] 1 (c_X3_siteOfSink hRr4) gX4_endOfWay_X3_siteOfSink rfl ⟨rfl, rfl⟩ hv_X3_siteOfSink ⟨Nat.le_of_ble_eq_true rfl, Nat.le_of_ble_eq_true rfl⟩ 38 (eX_38 ad k _) rfl rfl (Nat.le_of_ble_eq_true rfl) dX4_endOfWay_12 ?_
    refine xj_iload_n C 1 dX4_endOfWay_15 rfl rfl ?_
    refine xj_iconst C dX4_endOfWay_16 ?_
    obtain ⟨g5, hM⟩ := xck_some hM
    refine xj_irem C ⟨g5.1, g5.2, by decide, by decide⟩ dX4_endOfWay_17 ?_
    obtain ⟨r6, hRr6, hM⟩ := xbd hM
    refine xj_callV C [.int (xi r4), .int (xi (p1 % 3))] [] 2 (c_X4_switchPin hRr6) gX4_endOfWay_X4_switchPin rfl ⟨rfl, rfl⟩ hv_X4_switchPin ⟨Nat.le_of_ble_eq_true rfl, Nat.le_of_ble_eq_true rfl⟩ 39 (eX_39 ad k _) rfl rfl (Nat.le_of_ble_eq_true rfl) dX4_endOfWay_18 ?_
    obtain rfl := Option.some.inj hM
    exact xj_iret C rfl dX4_endOfWay_21
def rmX4_settingBack : Room := { frames := 1, cells := 0, slots := 0, locals := 24 }
theorem hv_X4_settingBack : yX4_settingBack.cls = RX4 ∧ yX4_settingBack.cls ≠ "java/lang/invoke/MethodHandle" ∧ yX4_settingBack.cls ≠ "java/lang/invoke/VarHandle" ∧ (parseMethodDescriptor yX4_settingBack.desc).map (fun d => d.parameters.length) = some 1 := by decide +kernel
def m_X4_settingBack_L7 (p1 : Int) (S : xS) : Nat → Int → Int → Int → Option (Int)
  | 0, _, _, _ => none
  | n + 1, v2, v3, v4 => xck (xr v4) (if 5 ≤ v4 then some v3 else (m_X1_beforeChannel p1 v4 S).bind (fun r3 => (xck (xr r3) (if r3 = (-1) then some 0 else xck (0 ≤ r3 ∧ r3 < 148) (xck (0 ≤ p1 ∧ p1 < 148) (xck (xr ((S 20 r3) + (S 19 p1)) ∧ xr (S 20 p1)) (if ((S 20 r3) + (S 19 p1)) = (S 20 p1) then some 1 else some 0))))).bind (fun r4 => (xck (xr r4) (if r4 = 0 then some (v2, v3) else xck (xr v2) (if v2 = (-1) then some (r3, v4) else xck (xr r3) (if v2 ≤ r3 then some (v2, v3) else some (r3, v4))))).bind (fun r11 => m_X4_settingBack_L7 p1 S n r11.1 r11.2 (v4 + 1)))))
def m_X4_settingBack (p1 : Int) (S : xS) : Option (Int) := (m_X4_settingBack_L7 p1 S 2000 (-1) 0 1).bind (fun r18 => some r18)
set_option maxRecDepth 100000 in
set_option maxHeartbeats 4000000 in
theorem j_X4_settingBack_L7 {l : Launch} {D : va_G} {k : Nat → ClassId} {ad : Nat → Nat} {o : xO} {X : xX} (C : xC D k o X cX4_settingBack 7 RX4 wsX4_settingBack (some .int) rmX4_settingBack) (p1 : Int) (S : xS) : ∀ (n : Nat) (v2 : Int) (v3 : Int) (v4 : Int) (r : Int), m_X4_settingBack_L7 p1 S n v2 v3 v4 = some r → (xJ l D k o X 7 89 [(3, .int (xi r))] [] (wX ad k S)) → xJ l D k o X 7 7 [(0, .ref (ad 39)), (1, .int (xi p1)), (2, .int (xi v2)), (3, .int (xi v3)), (4, .int (xi v4))] [] (wX ad k S) := by
  intro n
  induction n with
  | zero =>
    intro v2 v3 v4 r hM
    cases hM
  | succ n ih =>
    intro v2 v3 v4 r hM K
    unfold m_X4_settingBack_L7 at hM
    refine xj_iload C 4 dX4_settingBack_7 rfl ?_
    refine xj_iconst C dX4_settingBack_9 ?_
    obtain ⟨g1, hM⟩ := xck_some hM
    refine xj_icmp_ge C (tgt := 89) dX4_settingBack_10 (by decide) ⟨g1, (by decide)⟩ (fun c2 => ?_) (fun c2 => ?_)
    · have hM := xit hM c2
      obtain rfl := Option.some.inj hM
      refine xj_loc C [3] (L1 := [(3, .int (xi v3))]) rfl ?_
      exact K
    · have hM := xif hM c2
      refine xj_aload_n C 0 dX4_settingBack_13 rfl rfl ?_
      refine xj_get C (fun _ h => List.mem_cons_of_mem _ (List.mem_append_left _ (List.mem_append_right _ h))) 39 (eX_39 ad k S) rfl 0 (by decide) (List.mem_of_getElem? (i := 1) rfl) (fun _ _ h => h) rfl dX4_settingBack_14 ?_
      refine xj_iload_n C 1 dX4_settingBack_17 rfl rfl ?_
      refine xj_iload C 4 dX4_settingBack_18 rfl ?_
      obtain ⟨r3, hRr3, hM⟩ := xbd hM
      refine xj_callV C [.int (xi p1), .int (xi v4)] [] 2 (c_X1_beforeChannel hRr3) gX4_settingBack_X1_beforeChannel rfl ⟨rfl, rfl⟩ hv_X1_beforeChannel ⟨Nat.le_of_ble_eq_true rfl, Nat.le_of_ble_eq_true rfl⟩ 36 (eX_36 ad k _) rfl rfl (Nat.le_of_ble_eq_true rfl) dX4_settingBack_20 ?_
      refine xj_istore C (L1 := [(5, .int (xi r3)), (0, .ref (ad 39)), (1, .int (xi p1)), (2, .int (xi v2)), (3, .int (xi v3)), (4, .int (xi v4))]) dX4_settingBack_23 (by decide) rfl ?_
      refine xj_iload C 0 dX4_settingBack_25 rfl ?_
      refine xj_iconst C dX4_settingBack_27 ?_
      obtain ⟨r4, hRr4, hM⟩ := xbd hM
      have Kr4 : xJ l D k o X 7 59 [(0, .ref (ad 39)), (1, .int (xi p1)), (2, .int (xi v2)), (3, .int (xi v3)), (4, .int (xi v4)), (5, .int (xi r3))] [.int (xi r4)] (wX ad k S) := by
        refine xj_istore C (L1 := [(6, .int (xi r4)), (0, .ref (ad 39)), (1, .int (xi p1)), (2, .int (xi v2)), (3, .int (xi v3)), (4, .int (xi v4)), (5, .int (xi r3))]) dX4_settingBack_59 (by decide) rfl ?_
        refine xj_iload C 0 dX4_settingBack_61 rfl ?_
        obtain ⟨r11, hRr11, hM⟩ := xbd hM
        have Kr11 : xJ l D k o X 7 83 [(0, .ref (ad 39)), (1, .int (xi p1)), (2, .int (xi r11.1)), (3, .int (xi r11.2)), (4, .int (xi v4))] [] (wX ad k S) := by
          refine xj_iinc C 4 (L1 := [(4, .int (xi (v4 + 1))), (0, .ref (ad 39)), (1, .int (xi p1)), (2, .int (xi r11.1)), (3, .int (xi r11.2))]) dX4_settingBack_83 rfl (by decide) rfl ?_
          refine xj_goto C (tgt := 7) dX4_settingBack_86 (by decide) ?_
          refine xj_loc C [1, 2, 3, 4, 0] (L1 := [(0, .ref (ad 39)), (1, .int (xi p1)), (2, .int (xi r11.1)), (3, .int (xi r11.2)), (4, .int (xi (v4 + 1)))]) rfl ?_
          exact ih _ _ _ _ hM K
        clear hM
        have hM := hRr11
        obtain ⟨g12, hM⟩ := xck_some hM
        refine xj_if_eq C (tgt := 83) dX4_settingBack_63 (by decide) g12 (fun c13 => ?_) (fun c13 => ?_)
        · have hM := xit hM c13
          obtain rfl := Option.some.inj hM
          refine xj_loc C [1, 2, 3, 4, 5] (L1 := [(0, .ref (ad 39)), (1, .int (xi p1)), (2, .int (xi v2)), (3, .int (xi v3)), (4, .int (xi v4))]) rfl ?_
          exact Kr11
        · have hM := xif hM c13
          refine xj_iload_n C 3 dX4_settingBack_66 rfl rfl ?_
          refine xj_iconst C dX4_settingBack_67 ?_
          obtain ⟨g14, hM⟩ := xck_some hM
          refine xj_icmp_eq C (tgt := 77) dX4_settingBack_68 (by decide) ⟨g14, (by decide)⟩ (fun c15 => ?_) (fun c15 => ?_)
          · have hM := xit hM c15
            refine xj_iload C 6 dX4_settingBack_77 rfl ?_
            refine xj_istore_n C (L1 := [(2, .int (xi r3)), (6, .int (xi r4)), (0, .ref (ad 39)), (1, .int (xi p1)), (3, .int (xi v3)), (4, .int (xi v4)), (5, .int (xi r3))]) dX4_settingBack_79 rfl (by decide) rfl ?_
            refine xj_iload C 5 dX4_settingBack_80 rfl ?_
            refine xj_istore_n C (L1 := [(3, .int (xi v4)), (2, .int (xi r3)), (6, .int (xi r4)), (0, .ref (ad 39)), (1, .int (xi p1)), (4, .int (xi v4)), (5, .int (xi r3))]) dX4_settingBack_82 rfl (by decide) rfl ?_
            obtain rfl := Option.some.inj hM
            refine xj_loc C [3, 4, 1, 0, 5] (L1 := [(0, .ref (ad 39)), (1, .int (xi p1)), (2, .int (xi r3)), (3, .int (xi v4)), (4, .int (xi v4))]) rfl ?_
            exact Kr11
          · have hM := xif hM c15
            refine xj_iload C 6 dX4_settingBack_71 rfl ?_
            refine xj_iload_n C 3 dX4_settingBack_73 rfl rfl ?_
            obtain ⟨g16, hM⟩ := xck_some hM
            refine xj_icmp_ge C (tgt := 83) dX4_settingBack_74 (by decide) ⟨g16, g14⟩ (fun c17 => ?_) (fun c17 => ?_)
            · have hM := xit hM c17
              obtain rfl := Option.some.inj hM
              refine xj_loc C [1, 2, 3, 4, 5] (L1 := [(0, .ref (ad 39)), (1, .int (xi p1)), (2, .int (xi v2)), (3, .int (xi v3)), (4, .int (xi v4))]) rfl ?_
              exact Kr11
            · have hM := xif hM c17
              refine xj_iload C 6 dX4_settingBack_77 rfl ?_
              refine xj_istore_n C (L1 := [(2, .int (xi r3)), (6, .int (xi r4)), (0, .ref (ad 39)), (1, .int (xi p1)), (3, .int (xi v3)), (4, .int (xi v4)), (5, .int (xi r3))]) dX4_settingBack_79 rfl (by decide) rfl ?_
              refine xj_iload C 5 dX4_settingBack_80 rfl ?_
              refine xj_istore_n C (L1 := [(3, .int (xi v4)), (2, .int (xi r3)), (6, .int (xi r4)), (0, .ref (ad 39)), (1, .int (xi p1)), (4, .int (xi v4)), (5, .int (xi r3))]) dX4_settingBack_82 rfl (by decide) rfl ?_
              obtain rfl := Option.some.inj hM
              refine xj_loc C [3, 4, 1, 0, 5] (L1 := [(0, .ref (ad 39)), (1, .int (xi p1)), (2, .int (xi r3)), (3, .int (xi v4)), (4, .int (xi v4))]) rfl ?_
              exact Kr11
      clear hM
      have hM := hRr4
      obtain ⟨g5, hM⟩ := xck_some hM
      refine xj_icmp_eq C (tgt := 58) dX4_settingBack_28 (by decide) ⟨g5, (by decide)⟩ (fun c6 => ?_) (fun c6 => ?_)
      · have hM := xit hM c6
        refine xj_iconst C dX4_settingBack_58 ?_
        obtain rfl := Option.some.inj hM
        refine xj_loc C [1, 2, 3, 4, 5, 0] (L1 := [(0, .ref (ad 39)), (1, .int (xi p1)), (2, .int (xi v2)), (3, .int (xi v3)), (4, .int (xi v4)), (5, .int (xi r3))]) rfl ?_
        exact Kr4
      · have hM := xif hM c6
        refine xj_aload_n C 1 dX4_settingBack_31 rfl rfl ?_
        refine xj_get C (fun _ h => List.mem_cons_of_mem _ (List.mem_append_left _ (List.mem_append_right _ h))) 39 (eX_39 ad k S) rfl 7 (by decide) (List.mem_of_getElem? (i := 2) rfl) (fun _ _ h => h) rfl dX4_settingBack_32 ?_
        refine xj_iload C 0 dX4_settingBack_35 rfl ?_
        obtain ⟨g7, hM⟩ := xck_some hM
        refine xj_iald C 20 S 20 (eX_20 ad k S) (Nat.le_of_ble_eq_true rfl) g7 dX4_settingBack_37 ?_
        refine xj_aload_n C 1 dX4_settingBack_38 rfl rfl ?_
        refine xj_get C (fun _ h => List.mem_cons_of_mem _ (List.mem_append_left _ (List.mem_append_right _ h))) 39 (eX_39 ad k S) rfl 6 (by decide) (List.mem_of_getElem? (i := 3) rfl) (fun _ _ h => h) rfl dX4_settingBack_39 ?_
        refine xj_iload_n C 2 dX4_settingBack_42 rfl rfl ?_
        obtain ⟨g8, hM⟩ := xck_some hM
        refine xj_iald C 19 S 19 (eX_19 ad k S) (Nat.le_of_ble_eq_true rfl) g8 dX4_settingBack_43 ?_
        refine xj_iadd C dX4_settingBack_44 ?_
        refine xj_aload_n C 1 dX4_settingBack_45 rfl rfl ?_
        refine xj_get C (fun _ h => List.mem_cons_of_mem _ (List.mem_append_left _ (List.mem_append_right _ h))) 39 (eX_39 ad k S) rfl 7 (by decide) (List.mem_of_getElem? (i := 2) rfl) (fun _ _ h => h) rfl dX4_settingBack_46 ?_
        refine xj_iload_n C 2 dX4_settingBack_49 rfl rfl ?_
        refine xj_iald C 20 S 20 (eX_20 ad k S) (Nat.le_of_ble_eq_true rfl) g8 dX4_settingBack_50 ?_
        obtain ⟨g9, hM⟩ := xck_some hM
        refine xj_icmp_ne C (tgt := 58) dX4_settingBack_51 (by decide) ⟨g9.1, g9.2⟩ (fun c10 => ?_) (fun c10 => ?_)
        · have hM := xif hM c10
          refine xj_iconst C dX4_settingBack_58 ?_
          obtain rfl := Option.some.inj hM
          refine xj_loc C [1, 2, 3, 4, 5, 0] (L1 := [(0, .ref (ad 39)), (1, .int (xi p1)), (2, .int (xi v2)), (3, .int (xi v3)), (4, .int (xi v4)), (5, .int (xi r3))]) rfl ?_
          exact Kr4
        · have hM := xit hM c10
          refine xj_iconst C dX4_settingBack_54 ?_
          refine xj_goto C (tgt := 59) dX4_settingBack_55 (by decide) ?_
          obtain rfl := Option.some.inj hM
          refine xj_loc C [1, 2, 3, 4, 5, 0] (L1 := [(0, .ref (ad 39)), (1, .int (xi p1)), (2, .int (xi v2)), (3, .int (xi v3)), (4, .int (xi v4)), (5, .int (xi r3))]) rfl ?_
          exact Kr4
set_option maxRecDepth 100000 in
set_option maxHeartbeats 4000000 in
theorem c_X4_settingBack {l : Launch} {D : va_G} {k : Nat → ClassId} {ad : Nat → Nat} {S : xS} {p1 : Int} {res : Int} (hM : m_X4_settingBack p1 S = some res) : xM l yX4_settingBack wsX4_settingBack rmX4_settingBack D k [.ref (ad 39), .int (xi p1)] (wX ad k S) (some (.int (xi res))) (wX ad k S) := by
  refine xM_of (ret := (some .int)) (by decide) rfl (Nat.le_of_ble_eq_true rfl) (fun X C => ?_)
  have C : xC D k (xo X D k (some (.int (xi res))) (wX ad k S)) X cX4_settingBack 7 RX4 wsX4_settingBack (some .int) rmX4_settingBack := C
  show xJ l D k (xo X D k (some (.int (xi res))) (wX ad k S)) X 7 0 [(0, .ref (ad 39)), (1, .int (xi p1))] [] (wX ad k S)
  unfold m_X4_settingBack at hM
  refine xj_iconst C dX4_settingBack_0 ?_
  refine xj_istore_n C (L1 := [(2, .int (xi (-1))), (0, .ref (ad 39)), (1, .int (xi p1))]) dX4_settingBack_1 rfl (by decide) rfl ?_
  refine xj_iconst C dX4_settingBack_2 ?_
  refine xj_istore_n C (L1 := [(3, .int (xi 0)), (2, .int (xi (-1))), (0, .ref (ad 39)), (1, .int (xi p1))]) dX4_settingBack_3 rfl (by decide) rfl ?_
  refine xj_iconst C dX4_settingBack_4 ?_
  refine xj_istore C (L1 := [(4, .int (xi 1)), (3, .int (xi 0)), (2, .int (xi (-1))), (0, .ref (ad 39)), (1, .int (xi p1))]) dX4_settingBack_5 (by decide) rfl ?_
  obtain ⟨r18, hLr18, hM⟩ := xbd hM
  refine xj_loc C [3, 4, 2, 1, 0] (L1 := [(0, .ref (ad 39)), (1, .int (xi p1)), (2, .int (xi (-1))), (3, .int (xi 0)), (4, .int (xi 1))]) rfl ?_
  refine j_X4_settingBack_L7 C p1 S _ _ _ _ _ hLr18 ?_
  refine xj_iload_n C 0 dX4_settingBack_89 rfl rfl ?_
  obtain rfl := Option.some.inj hM
  exact xj_iret C rfl dX4_settingBack_90
def rmX4_followBack : Room := { frames := 2, cells := 0, slots := 0, locals := 50 }
theorem hv_X4_followBack : yX4_followBack.cls = RX4 ∧ yX4_followBack.cls ≠ "java/lang/invoke/MethodHandle" ∧ yX4_followBack.cls ≠ "java/lang/invoke/VarHandle" ∧ (parseMethodDescriptor yX4_followBack.desc).map (fun d => d.parameters.length) = some 1 := by decide +kernel
def m_X4_followBack_L4 : Nat → Int → Int → xS → Option (xS)
  | 0, _, _, _ => none
  | n + 1, v2, v3, S => xck (xr v3) (if 148 ≤ v3 then some S else xck (xr v2) (if v2 = (-1) then some S else xck (0 ≤ v2 ∧ v2 < 148) (xck (xr (S 21 v2)) (if (S 21 v2) = 0 then xck ((0 ≤ v2 ∧ v2 < 148)) ((m_X4_settingBack v2 (xup S 21 v2 1)).bind (fun r9 => ((if 144 ≤ v2 then some (xup S 21 v2 1) else xck (0 ≤ v2 ∧ v2 < 144) (some (xup (xup S 21 v2 1) 22 v2 r9)))).bind (fun r10 => (m_X1_beforeChannel v2 r9 r10).bind (fun r13 => m_X4_followBack_L4 n r13 (v3 + 1) r10)))) else some S))))
def m_X4_followBack (p1 : Int) (S : xS) : Option (xS) := (m_X4_followBack_L4 2000 p1 0 S).bind (fun r14 => some r14)
set_option maxRecDepth 100000 in
set_option maxHeartbeats 4000000 in
theorem j_X4_followBack_L4 {l : Launch} {D : va_G} {k : Nat → ClassId} {ad : Nat → Nat} {o : xO} {X : xX} (C : xC D k o X cX4_followBack 5 RX4 wsX4_followBack none rmX4_followBack) : ∀ (n : Nat) (v2 : Int) (v3 : Int) (S : xS) (r : xS), m_X4_followBack_L4 n v2 v3 S = some r → (xJ l D k o X 5 71 [] [] (wX ad k r)) → xJ l D k o X 5 4 [(0, .ref (ad 39)), (2, .int (xi v2)), (3, .int (xi v3))] [] (wX ad k S) := by
  intro n
  induction n with
  | zero =>
    intro v2 v3 S r hM
    cases hM
  | succ n ih =>
    intro v2 v3 S r hM K
    unfold m_X4_followBack_L4 at hM
    refine xj_iload_n C 2 dX4_followBack_4 rfl rfl ?_
    refine xj_sipush C (n := 148) (by decide) dX4_followBack_5 ?_
    obtain ⟨g1, hM⟩ := xck_some hM
    refine xj_icmp_ge C (tgt := 71) dX4_followBack_8 (by decide) ⟨g1, (by decide)⟩ (fun c2 => ?_) (fun c2 => ?_)
    · have hM := xit hM c2
      obtain rfl := Option.some.inj hM
      refine xj_loc C [] (L1 := []) rfl ?_
      exact K
    · have hM := xif hM c2
      refine xj_iload_n C 1 dX4_followBack_11 rfl rfl ?_
      refine xj_iconst C dX4_followBack_12 ?_
      obtain ⟨g3, hM⟩ := xck_some hM
      refine xj_icmp_eq C (tgt := 71) dX4_followBack_13 (by decide) ⟨g3, (by decide)⟩ (fun c4 => ?_) (fun c4 => ?_)
      · have hM := xit hM c4
        obtain rfl := Option.some.inj hM
        refine xj_loc C [] (L1 := []) rfl ?_
        exact K
      · have hM := xif hM c4
        refine xj_aload_n C 0 dX4_followBack_16 rfl rfl ?_
        refine xj_get C (fun _ h => List.mem_cons_of_mem _ (List.mem_append_left _ (List.mem_append_right _ h))) 39 (eX_39 ad k S) rfl 8 (by decide) (List.mem_of_getElem? (i := 1) rfl) (fun _ _ h => h) rfl dX4_followBack_17 ?_
        refine xj_iload_n C 1 dX4_followBack_20 rfl rfl ?_
        obtain ⟨g5, hM⟩ := xck_some hM
        refine xj_zald C 21 S 21 (eX_21 ad k S) (Nat.le_of_ble_eq_true rfl) g5 dX4_followBack_21 ?_
        obtain ⟨g6, hM⟩ := xck_some hM
        refine xj_if_ne C (tgt := 71) dX4_followBack_22 (by decide) g6 (fun c7 => ?_) (fun c7 => ?_)
        · have hM := xif hM c7
          obtain rfl := Option.some.inj hM
          refine xj_loc C [] (L1 := []) rfl ?_
          exact K
        · have hM := xit hM c7
          refine xj_aload_n C 0 dX4_followBack_25 rfl rfl ?_
          refine xj_get C (fun _ h => List.mem_cons_of_mem _ (List.mem_append_left _ (List.mem_append_right _ h))) 39 (eX_39 ad k S) rfl 8 (by decide) (List.mem_of_getElem? (i := 1) rfl) (fun _ _ h => h) rfl dX4_followBack_26 ?_
          refine xj_iload_n C 1 dX4_followBack_29 rfl rfl ?_
          refine xj_iconst C dX4_followBack_30 ?_
          obtain ⟨g8, hM⟩ := xck_some hM
          refine xj_zast C 21 S 21 (eX_21 ad k S) (Nat.le_of_ble_eq_true rfl) (Or.inr rfl) g8 (sX_21 ad k S v2 1) dX4_followBack_31 ?_
          refine xj_aload_n C 0 dX4_followBack_32 rfl rfl ?_
          refine xj_iload_n C 1 dX4_followBack_33 rfl rfl ?_
          obtain ⟨r9, hRr9, hM⟩ := xbd hM
          refine xj_callV C [.int (xi v2)] [] 1 (c_X4_settingBack hRr9) gX4_followBack_X4_settingBack rfl ⟨rfl, rfl⟩ hv_X4_settingBack ⟨Nat.le_of_ble_eq_true rfl, Nat.le_of_ble_eq_true rfl⟩ 39 (eX_39 ad k _) rfl rfl (Nat.le_of_ble_eq_true rfl) dX4_followBack_34 ?_
          refine xj_istore C (L1 := [(4, .int (xi r9)), (0, .ref (ad 39)), (2, .int (xi v2)), (3, .int (xi v3))]) dX4_followBack_37 (by decide) rfl ?_
          refine xj_iload_n C 2 dX4_followBack_39 rfl rfl ?_
          refine xj_sipush C (n := 144) (by decide) dX4_followBack_40 ?_
          obtain ⟨r10, hRr10, hM⟩ := xbd hM
          have Kr10 : xJ l D k o X 5 54 [(0, .ref (ad 39)), (2, .int (xi v2)), (3, .int (xi v3)), (4, .int (xi r9))] [] (wX ad k r10) := by
            refine xj_aload_n C 0 dX4_followBack_54 rfl rfl ?_
            refine xj_get C (fun _ h => List.mem_cons_of_mem _ (List.mem_append_left _ (List.mem_append_right _ h))) 39 (eX_39 ad k r10) rfl 0 (by decide) (List.mem_of_getElem? (i := 3) rfl) (fun _ _ h => h) rfl dX4_followBack_55 ?_
            refine xj_iload_n C 1 dX4_followBack_58 rfl rfl ?_
            refine xj_iload C 3 dX4_followBack_59 rfl ?_
            obtain ⟨r13, hRr13, hM⟩ := xbd hM
            refine xj_callV C [.int (xi v2), .int (xi r9)] [] 2 (c_X1_beforeChannel hRr13) gX4_followBack_X1_beforeChannel rfl ⟨rfl, rfl⟩ hv_X1_beforeChannel ⟨Nat.le_of_ble_eq_true rfl, Nat.le_of_ble_eq_true rfl⟩ 36 (eX_36 ad k _) rfl rfl (Nat.le_of_ble_eq_true rfl) dX4_followBack_61 ?_
            refine xj_istore_n C (L1 := [(2, .int (xi r13)), (0, .ref (ad 39)), (3, .int (xi v3)), (4, .int (xi r9))]) dX4_followBack_64 rfl (by decide) rfl ?_
            refine xj_iinc C 2 (L1 := [(3, .int (xi (v3 + 1))), (2, .int (xi r13)), (0, .ref (ad 39)), (4, .int (xi r9))]) dX4_followBack_65 rfl (by decide) rfl ?_
            refine xj_goto C (tgt := 4) dX4_followBack_68 (by decide) ?_
            refine xj_loc C [2, 1, 0] (L1 := [(0, .ref (ad 39)), (2, .int (xi r13)), (3, .int (xi (v3 + 1)))]) rfl ?_
            exact ih _ _ _ _ hM K
          clear hM
          have hM := hRr10
          refine xj_icmp_ge C (tgt := 54) dX4_followBack_43 (by decide) ⟨g3, (by decide)⟩ (fun c11 => ?_) (fun c11 => ?_)
          · have hM := xit hM c11
            obtain rfl := Option.some.inj hM
            refine xj_loc C [1, 2, 3, 0] (L1 := [(0, .ref (ad 39)), (2, .int (xi v2)), (3, .int (xi v3)), (4, .int (xi r9))]) rfl ?_
            exact Kr10
          · have hM := xif hM c11
            refine xj_aload_n C 1 dX4_followBack_46 rfl rfl ?_
            refine xj_get C (fun _ h => List.mem_cons_of_mem _ (List.mem_append_left _ (List.mem_append_right _ h))) 39 (eX_39 ad k (xup S 21 v2 1)) rfl 9 (by decide) (List.mem_of_getElem? (i := 2) rfl) (fun _ _ h => h) rfl dX4_followBack_47 ?_
            refine xj_iload_n C 2 dX4_followBack_50 rfl rfl ?_
            refine xj_iload C 0 dX4_followBack_51 rfl ?_
            obtain ⟨g12, hM⟩ := xck_some hM
            refine xj_iast C 22 (xup S 21 v2 1) 22 (eX_22 ad k (xup S 21 v2 1)) (Nat.le_of_ble_eq_true rfl) g12 (sX_22 ad k (xup S 21 v2 1) v2 r9) dX4_followBack_53 ?_
            obtain rfl := Option.some.inj hM
            refine xj_loc C [1, 2, 3, 0] (L1 := [(0, .ref (ad 39)), (2, .int (xi v2)), (3, .int (xi v3)), (4, .int (xi r9))]) rfl ?_
            exact Kr10
set_option maxRecDepth 100000 in
set_option maxHeartbeats 4000000 in
theorem c_X4_followBack {l : Launch} {D : va_G} {k : Nat → ClassId} {ad : Nat → Nat} {S : xS} {p1 : Int} {res : xS} (hM : m_X4_followBack p1 S = some res) : xM l yX4_followBack wsX4_followBack rmX4_followBack D k [.ref (ad 39), .int (xi p1)] (wX ad k S) none (wX ad k res) := by
  refine xM_of (ret := none) (by decide) rfl (Nat.le_of_ble_eq_true rfl) (fun X C => ?_)
  have C : xC D k (xo X D k none (wX ad k res)) X cX4_followBack 5 RX4 wsX4_followBack none rmX4_followBack := C
  show xJ l D k (xo X D k none (wX ad k res)) X 5 0 [(0, .ref (ad 39)), (1, .int (xi p1))] [] (wX ad k S)
  unfold m_X4_followBack at hM
  refine xj_iload_n C 1 dX4_followBack_0 rfl rfl ?_
  refine xj_istore_n C (L1 := [(2, .int (xi p1)), (0, .ref (ad 39)), (1, .int (xi p1))]) dX4_followBack_1 rfl (by decide) rfl ?_
  refine xj_iconst C dX4_followBack_2 ?_
  refine xj_istore_n C (L1 := [(3, .int (xi 0)), (2, .int (xi p1)), (0, .ref (ad 39)), (1, .int (xi p1))]) dX4_followBack_3 rfl (by decide) rfl ?_
  obtain ⟨r14, hLr14, hM⟩ := xbd hM
  refine xj_loc C [2, 1, 0] (L1 := [(0, .ref (ad 39)), (2, .int (xi p1)), (3, .int (xi 0))]) rfl ?_
  refine j_X4_followBack_L4 C _ _ _ _ _ hLr14 ?_
  obtain rfl := Option.some.inj hM
  exact xj_vret C rfl dX4_followBack_71
def rmX4_shorten : Room := { frames := 1, cells := 0, slots := 0, locals := 21 }
theorem hv_X4_shorten : yX4_shorten.cls = RX4 ∧ yX4_shorten.cls ≠ "java/lang/invoke/MethodHandle" ∧ yX4_shorten.cls ≠ "java/lang/invoke/VarHandle" ∧ (parseMethodDescriptor yX4_shorten.desc).map (fun d => d.parameters.length) = some 2 := by decide +kernel
def m_X4_shorten (p1 : Int) (p2 : Int) (S : xS) : Option (xS) := xck (0 ≤ p1 ∧ p1 < 148) (xck (xr p2 ∧ xr (S 20 p1)) (if (S 20 p1) ≤ p2 then some S else (m_X7_add p1 (xup S 20 p1 p2)).bind (fun r4 => some r4)))
set_option maxRecDepth 100000 in
set_option maxHeartbeats 4000000 in
theorem c_X4_shorten {l : Launch} {D : va_G} {k : Nat → ClassId} {ad : Nat → Nat} {S : xS} {p1 : Int} {p2 : Int} {res : xS} (hM : m_X4_shorten p1 p2 S = some res) : xM l yX4_shorten wsX4_shorten rmX4_shorten D k [.ref (ad 39), .int (xi p1), .int (xi p2)] (wX ad k S) none (wX ad k res) := by
  refine xM_of (ret := none) (by decide) rfl (Nat.le_of_ble_eq_true rfl) (fun X C => ?_)
  have C : xC D k (xo X D k none (wX ad k res)) X cX4_shorten 3 RX4 wsX4_shorten none rmX4_shorten := C
  show xJ l D k (xo X D k none (wX ad k res)) X 3 0 [(0, .ref (ad 39)), (1, .int (xi p1)), (2, .int (xi p2))] [] (wX ad k S)
  unfold m_X4_shorten at hM
  refine xj_iload_n C 2 dX4_shorten_0 rfl rfl ?_
  refine xj_aload_n C 0 dX4_shorten_1 rfl rfl ?_
  refine xj_get C (fun _ h => List.mem_cons_of_mem _ (List.mem_append_left _ (List.mem_append_right _ h))) 39 (eX_39 ad k S) rfl 7 (by decide) (List.mem_of_getElem? (i := 1) rfl) (fun _ _ h => h) rfl dX4_shorten_2 ?_
  refine xj_iload_n C 1 dX4_shorten_5 rfl rfl ?_
  obtain ⟨g1, hM⟩ := xck_some hM
  refine xj_iald C 20 S 20 (eX_20 ad k S) (Nat.le_of_ble_eq_true rfl) g1 dX4_shorten_6 ?_
  obtain ⟨g2, hM⟩ := xck_some hM
  refine xj_icmp_ge C (tgt := 25) dX4_shorten_7 (by decide) ⟨g2.1, g2.2⟩ (fun c3 => ?_) (fun c3 => ?_)
  · have hM := xit hM c3
    obtain rfl := Option.some.inj hM
    exact xj_vret C rfl dX4_shorten_25
  · have hM := xif hM c3
    refine xj_aload_n C 0 dX4_shorten_10 rfl rfl ?_
    refine xj_get C (fun _ h => List.mem_cons_of_mem _ (List.mem_append_left _ (List.mem_append_right _ h))) 39 (eX_39 ad k S) rfl 7 (by decide) (List.mem_of_getElem? (i := 1) rfl) (fun _ _ h => h) rfl dX4_shorten_11 ?_
    refine xj_iload_n C 1 dX4_shorten_14 rfl rfl ?_
    refine xj_iload_n C 2 dX4_shorten_15 rfl rfl ?_
    refine xj_iast C 20 S 20 (eX_20 ad k S) (Nat.le_of_ble_eq_true rfl) g1 (sX_20 ad k S p1 p2) dX4_shorten_16 ?_
    refine xj_aload_n C 0 dX4_shorten_17 rfl rfl ?_
    refine xj_get C (fun _ h => List.mem_cons_of_mem _ (List.mem_append_left _ (List.mem_append_right _ h))) 39 (eX_39 ad k (xup S 20 p1 p2)) rfl 3 (by decide) (List.mem_of_getElem? (i := 2) rfl) (fun _ _ h => h) rfl dX4_shorten_18 ?_
    refine xj_iload_n C 1 dX4_shorten_21 rfl rfl ?_
    obtain ⟨r4, hRr4, hM⟩ := xbd hM
    refine xj_callV C [.int (xi p1)] [] 1 (c_X7_add hRr4) gX4_shorten_X7_add rfl ⟨rfl, rfl⟩ hv_X7_add ⟨Nat.le_of_ble_eq_true rfl, Nat.le_of_ble_eq_true rfl⟩ 42 (eX_42 ad k _) rfl rfl (Nat.le_of_ble_eq_true rfl) dX4_shorten_22 ?_
    obtain rfl := Option.some.inj hM
    exact xj_vret C rfl dX4_shorten_25
def rmX4_spreadFrom : Room := { frames := 2, cells := 0, slots := 0, locals := 43 }
theorem hv_X4_spreadFrom : yX4_spreadFrom.cls = RX4 ∧ yX4_spreadFrom.cls ≠ "java/lang/invoke/MethodHandle" ∧ yX4_spreadFrom.cls ≠ "java/lang/invoke/VarHandle" ∧ (parseMethodDescriptor yX4_spreadFrom.desc).map (fun d => d.parameters.length) = some 1 := by decide +kernel
def m_X4_spreadFrom_L2 (p1 : Int) : Nat → Int → xS → Option (xS)
  | 0, _, _ => none
  | n + 1, v2, S => xck (xr v2) (if 8 ≤ v2 then some S else (m_X1_channelAfter p1 v2 S).bind (fun r3 => xck (xr r3) (if r3 = (-1) then some S else xck (0 ≤ p1 ∧ p1 < 148) (xck (0 ≤ r3 ∧ r3 < 148) ((m_X4_shorten r3 ((S 20 p1) + (S 19 r3)) S).bind (fun r8 => m_X4_spreadFrom_L2 p1 n (v2 + 1) r8))))))
def m_X4_spreadFrom (p1 : Int) (S : xS) : Option (xS) := (m_X4_spreadFrom_L2 p1 2000 0 S).bind (fun r9 => some r9)
set_option maxRecDepth 100000 in
set_option maxHeartbeats 4000000 in
theorem j_X4_spreadFrom_L2 {l : Launch} {D : va_G} {k : Nat → ClassId} {ad : Nat → Nat} {o : xO} {X : xX} (C : xC D k o X cX4_spreadFrom 4 RX4 wsX4_spreadFrom none rmX4_spreadFrom) (p1 : Int) : ∀ (n : Nat) (v2 : Int) (S : xS) (r : xS), m_X4_spreadFrom_L2 p1 n v2 S = some r → (xJ l D k o X 4 50 [] [] (wX ad k r)) → xJ l D k o X 4 2 [(0, .ref (ad 39)), (1, .int (xi p1)), (2, .int (xi v2))] [] (wX ad k S) := by
  intro n
  induction n with
  | zero =>
    intro v2 S r hM
    cases hM
  | succ n ih =>
    intro v2 S r hM K
    unfold m_X4_spreadFrom_L2 at hM
    refine xj_iload_n C 2 dX4_spreadFrom_2 rfl rfl ?_
    refine xj_bipush C (n := 8) (by decide) dX4_spreadFrom_3 ?_
    obtain ⟨g1, hM⟩ := xck_some hM
    refine xj_icmp_ge C (tgt := 50) dX4_spreadFrom_5 (by decide) ⟨g1, (by decide)⟩ (fun c2 => ?_) (fun c2 => ?_)
    · have hM := xit hM c2
      obtain rfl := Option.some.inj hM
      refine xj_loc C [] (L1 := []) rfl ?_
      exact K
    · have hM := xif hM c2
      refine xj_aload_n C 0 dX4_spreadFrom_8 rfl rfl ?_
      refine xj_get C (fun _ h => List.mem_cons_of_mem _ (List.mem_append_left _ (List.mem_append_left _ (List.mem_append_right _ h)))) 39 (eX_39 ad k S) rfl 0 (by decide) (List.mem_of_getElem? (i := 1) rfl) (fun _ _ h => h) rfl dX4_spreadFrom_9 ?_
      refine xj_iload_n C 1 dX4_spreadFrom_12 rfl rfl ?_
      refine xj_iload_n C 2 dX4_spreadFrom_13 rfl rfl ?_
      obtain ⟨r3, hRr3, hM⟩ := xbd hM
      refine xj_callV C [.int (xi p1), .int (xi v2)] [] 2 (c_X1_channelAfter hRr3) gX4_spreadFrom_X1_channelAfter rfl ⟨rfl, rfl⟩ hv_X1_channelAfter ⟨Nat.le_of_ble_eq_true rfl, Nat.le_of_ble_eq_true rfl⟩ 36 (eX_36 ad k _) rfl rfl (Nat.le_of_ble_eq_true rfl) dX4_spreadFrom_14 ?_
      refine xj_istore_n C (L1 := [(3, .int (xi r3)), (0, .ref (ad 39)), (1, .int (xi p1)), (2, .int (xi v2))]) dX4_spreadFrom_17 rfl (by decide) rfl ?_
      refine xj_iload_n C 0 dX4_spreadFrom_18 rfl rfl ?_
      refine xj_iconst C dX4_spreadFrom_19 ?_
      obtain ⟨g4, hM⟩ := xck_some hM
      refine xj_icmp_ne C (tgt := 26) dX4_spreadFrom_20 (by decide) ⟨g4, (by decide)⟩ (fun c5 => ?_) (fun c5 => ?_)
      · have hM := xif hM c5
        refine xj_aload_n C 1 dX4_spreadFrom_26 rfl rfl ?_
        refine xj_iload_n C 0 dX4_spreadFrom_27 rfl rfl ?_
        refine xj_aload_n C 1 dX4_spreadFrom_28 rfl rfl ?_
        refine xj_get C (fun _ h => List.mem_cons_of_mem _ (List.mem_append_left _ (List.mem_append_left _ (List.mem_append_right _ h)))) 39 (eX_39 ad k S) rfl 7 (by decide) (List.mem_of_getElem? (i := 2) rfl) (fun _ _ h => h) rfl dX4_spreadFrom_29 ?_
        refine xj_iload_n C 2 dX4_spreadFrom_32 rfl rfl ?_
        obtain ⟨g6, hM⟩ := xck_some hM
        refine xj_iald C 20 S 20 (eX_20 ad k S) (Nat.le_of_ble_eq_true rfl) g6 dX4_spreadFrom_33 ?_
        refine xj_aload_n C 1 dX4_spreadFrom_34 rfl rfl ?_
        refine xj_get C (fun _ h => List.mem_cons_of_mem _ (List.mem_append_left _ (List.mem_append_left _ (List.mem_append_right _ h)))) 39 (eX_39 ad k S) rfl 6 (by decide) (List.mem_of_getElem? (i := 3) rfl) (fun _ _ h => h) rfl dX4_spreadFrom_35 ?_
        refine xj_iload_n C 0 dX4_spreadFrom_38 rfl rfl ?_
        obtain ⟨g7, hM⟩ := xck_some hM
        refine xj_iald C 19 S 19 (eX_19 ad k S) (Nat.le_of_ble_eq_true rfl) g7 dX4_spreadFrom_39 ?_
        refine xj_iadd C dX4_spreadFrom_40 ?_
        obtain ⟨r8, hRr8, hM⟩ := xbd hM
        refine xj_callV C [.int (xi r3), .int (xi ((S 20 p1) + (S 19 r3)))] [] 2 (c_X4_shorten hRr8) gX4_spreadFrom_X4_shorten rfl ⟨rfl, rfl⟩ hv_X4_shorten ⟨Nat.le_of_ble_eq_true rfl, Nat.le_of_ble_eq_true rfl⟩ 39 (eX_39 ad k _) rfl rfl (Nat.le_of_ble_eq_true rfl) dX4_spreadFrom_41 ?_
        refine xj_iinc C 3 (L1 := [(2, .int (xi (v2 + 1))), (3, .int (xi r3)), (0, .ref (ad 39)), (1, .int (xi p1))]) dX4_spreadFrom_44 rfl (by decide) rfl ?_
        refine xj_goto C (tgt := 2) dX4_spreadFrom_47 (by decide) ?_
        refine xj_loc C [2, 3, 0] (L1 := [(0, .ref (ad 39)), (1, .int (xi p1)), (2, .int (xi (v2 + 1)))]) rfl ?_
        exact ih _ _ _ hM K
      · have hM := xit hM c5
        refine xj_goto C (tgt := 50) dX4_spreadFrom_23 (by decide) ?_
        obtain rfl := Option.some.inj hM
        refine xj_loc C [] (L1 := []) rfl ?_
        exact K
set_option maxRecDepth 100000 in
set_option maxHeartbeats 4000000 in
theorem c_X4_spreadFrom {l : Launch} {D : va_G} {k : Nat → ClassId} {ad : Nat → Nat} {S : xS} {p1 : Int} {res : xS} (hM : m_X4_spreadFrom p1 S = some res) : xM l yX4_spreadFrom wsX4_spreadFrom rmX4_spreadFrom D k [.ref (ad 39), .int (xi p1)] (wX ad k S) none (wX ad k res) := by
  refine xM_of (ret := none) (by decide) rfl (Nat.le_of_ble_eq_true rfl) (fun X C => ?_)
  have C : xC D k (xo X D k none (wX ad k res)) X cX4_spreadFrom 4 RX4 wsX4_spreadFrom none rmX4_spreadFrom := C
  show xJ l D k (xo X D k none (wX ad k res)) X 4 0 [(0, .ref (ad 39)), (1, .int (xi p1))] [] (wX ad k S)
  unfold m_X4_spreadFrom at hM
  refine xj_iconst C dX4_spreadFrom_0 ?_
  refine xj_istore_n C (L1 := [(2, .int (xi 0)), (0, .ref (ad 39)), (1, .int (xi p1))]) dX4_spreadFrom_1 rfl (by decide) rfl ?_
  obtain ⟨r9, hLr9, hM⟩ := xbd hM
  refine xj_loc C [1, 2, 0] (L1 := [(0, .ref (ad 39)), (1, .int (xi p1)), (2, .int (xi 0))]) rfl ?_
  refine j_X4_spreadFrom_L2 C p1 _ _ _ _ hLr9 ?_
  obtain rfl := Option.some.inj hM
  exact xj_vret C rfl dX4_spreadFrom_50
def rmX4_spread : Room := { frames := 3, cells := 0, slots := 0, locals := 66 }
theorem hv_X4_spread : yX4_spread.cls = RX4 ∧ yX4_spread.cls ≠ "java/lang/invoke/MethodHandle" ∧ yX4_spread.cls ≠ "java/lang/invoke/VarHandle" ∧ (parseMethodDescriptor yX4_spread.desc).map (fun d => d.parameters.length) = some 0 := by decide +kernel
def m_X4_spread_L2 : Nat → Int → xS → Option (xS)
  | 0, _, _ => none
  | n + 1, v1, S => xck (xr v1) (if 148 ≤ v1 then some S else xck (0 ≤ v1 ∧ v1 < 148) ((xck (xr (S 21 v1)) (if (S 21 v1) = 0 then some S else (m_X4_shorten v1 0 S).bind (fun r7 => some r7))).bind (fun r4 => m_X4_spread_L2 n (v1 + 1) r4)))
def m_X4_spread_L32 : Nat → Int → xS → Option (xS)
  | 0, _, _ => none
  | n + 1, v1, S => xck (xr v1) (if 1000000 ≤ v1 then some S else (m_X7_isEmpty S).bind (fun r11 => xck (xr r11) (if r11 = 0 then (m_X7_take S).bind (fun r14 => (m_X4_spreadFrom r14.1 r14.2).bind (fun r15 => m_X4_spread_L32 n (v1 + 1) r15)) else some S)))
def m_X4_spread (S : xS) : Option (xS) := (m_X4_spread_L2 2000 0 S).bind (fun r8 => (m_X4_spread_L32 1000002 0 r8).bind (fun r16 => some r16))
set_option maxRecDepth 100000 in
set_option maxHeartbeats 4000000 in
theorem j_X4_spread_L2 {l : Launch} {D : va_G} {k : Nat → ClassId} {ad : Nat → Nat} {o : xO} {X : xX} (C : xC D k o X cX4_spread 2 RX4 wsX4_spread none rmX4_spread) : ∀ (n : Nat) (v1 : Int) (S : xS) (r : xS), m_X4_spread_L2 n v1 S = some r → (xJ l D k o X 2 30 [(0, .ref (ad 39))] [] (wX ad k r)) → xJ l D k o X 2 2 [(0, .ref (ad 39)), (1, .int (xi v1))] [] (wX ad k S) := by
  intro n
  induction n with
  | zero =>
    intro v1 S r hM
    cases hM
  | succ n ih =>
    intro v1 S r hM K
    unfold m_X4_spread_L2 at hM
    refine xj_iload_n C 1 dX4_spread_2 rfl rfl ?_
    refine xj_sipush C (n := 148) (by decide) dX4_spread_3 ?_
    obtain ⟨g1, hM⟩ := xck_some hM
    refine xj_icmp_ge C (tgt := 30) dX4_spread_6 (by decide) ⟨g1, (by decide)⟩ (fun c2 => ?_) (fun c2 => ?_)
    · have hM := xit hM c2
      obtain rfl := Option.some.inj hM
      refine xj_loc C [0] (L1 := [(0, .ref (ad 39))]) rfl ?_
      exact K
    · have hM := xif hM c2
      refine xj_aload_n C 0 dX4_spread_9 rfl rfl ?_
      refine xj_get C (fun _ h => List.mem_cons_of_mem _ (List.mem_append_left _ (List.mem_append_left _ (List.mem_append_right _ h)))) 39 (eX_39 ad k S) rfl 8 (by decide) (List.mem_of_getElem? (i := 1) rfl) (fun _ _ h => h) rfl dX4_spread_10 ?_
      refine xj_iload_n C 1 dX4_spread_13 rfl rfl ?_
      obtain ⟨g3, hM⟩ := xck_some hM
      refine xj_zald C 21 S 21 (eX_21 ad k S) (Nat.le_of_ble_eq_true rfl) g3 dX4_spread_14 ?_
      obtain ⟨r4, hRr4, hM⟩ := xbd hM
      have Kr4 : xJ l D k o X 2 24 [(0, .ref (ad 39)), (1, .int (xi v1))] [] (wX ad k r4) := by
        refine xj_iinc C 1 (L1 := [(1, .int (xi (v1 + 1))), (0, .ref (ad 39))]) dX4_spread_24 rfl (by decide) rfl ?_
        refine xj_goto C (tgt := 2) dX4_spread_27 (by decide) ?_
        refine xj_loc C [1, 0] (L1 := [(0, .ref (ad 39)), (1, .int (xi (v1 + 1)))]) rfl ?_
        exact ih _ _ _ hM K
      clear hM
      have hM := hRr4
      obtain ⟨g5, hM⟩ := xck_some hM
      refine xj_if_eq C (tgt := 24) dX4_spread_15 (by decide) g5 (fun c6 => ?_) (fun c6 => ?_)
      · have hM := xit hM c6
        obtain rfl := Option.some.inj hM
        exact Kr4
      · have hM := xif hM c6
        refine xj_aload_n C 0 dX4_spread_18 rfl rfl ?_
        refine xj_iload_n C 1 dX4_spread_19 rfl rfl ?_
        refine xj_iconst C dX4_spread_20 ?_
        obtain ⟨r7, hRr7, hM⟩ := xbd hM
        refine xj_callV C [.int (xi v1), .int (xi 0)] [] 2 (c_X4_shorten hRr7) gX4_spread_X4_shorten rfl ⟨rfl, rfl⟩ hv_X4_shorten ⟨Nat.le_of_ble_eq_true rfl, Nat.le_of_ble_eq_true rfl⟩ 39 (eX_39 ad k _) rfl rfl (Nat.le_of_ble_eq_true rfl) dX4_spread_21 ?_
        obtain rfl := Option.some.inj hM
        exact Kr4
set_option maxRecDepth 100000 in
set_option maxHeartbeats 4000000 in
theorem j_X4_spread_L32 {l : Launch} {D : va_G} {k : Nat → ClassId} {ad : Nat → Nat} {o : xO} {X : xX} (C : xC D k o X cX4_spread 2 RX4 wsX4_spread none rmX4_spread) : ∀ (n : Nat) (v1 : Int) (S : xS) (r : xS), m_X4_spread_L32 n v1 S = some r → (xJ l D k o X 2 65 [] [] (wX ad k r)) → xJ l D k o X 2 32 [(0, .ref (ad 39)), (1, .int (xi v1))] [] (wX ad k S) := by
  intro n
  induction n with
  | zero =>
    intro v1 S r hM
    cases hM
  | succ n ih =>
    intro v1 S r hM K
    unfold m_X4_spread_L32 at hM
    refine xj_iload_n C 1 dX4_spread_32 rfl rfl ?_
    refine xj_ldc C (n := 1000000) (List.mem_of_getElem? (i := 2) rfl) (by decide) dX4_spread_33 ?_
    obtain ⟨g9, hM⟩ := xck_some hM
    refine xj_icmp_ge C (tgt := 65) dX4_spread_35 (by decide) ⟨g9, (by decide)⟩ (fun c10 => ?_) (fun c10 => ?_)
    · have hM := xit hM c10
      obtain rfl := Option.some.inj hM
      refine xj_loc C [] (L1 := []) rfl ?_
      exact K
    · have hM := xif hM c10
      refine xj_aload_n C 0 dX4_spread_38 rfl rfl ?_
      refine xj_get C (fun _ h => List.mem_cons_of_mem _ (List.mem_append_left _ (List.mem_append_left _ (List.mem_append_right _ h)))) 39 (eX_39 ad k S) rfl 3 (by decide) (List.mem_of_getElem? (i := 3) rfl) (fun _ _ h => h) rfl dX4_spread_39 ?_
      obtain ⟨r11, hRr11, hM⟩ := xbd hM
      refine xj_callV C [] [] 0 (c_X7_isEmpty hRr11) gX4_spread_X7_isEmpty rfl ⟨rfl, rfl⟩ hv_X7_isEmpty ⟨Nat.le_of_ble_eq_true rfl, Nat.le_of_ble_eq_true rfl⟩ 42 (eX_42 ad k _) rfl rfl (Nat.le_of_ble_eq_true rfl) dX4_spread_42 ?_
      obtain ⟨g12, hM⟩ := xck_some hM
      refine xj_if_ne C (tgt := 65) dX4_spread_45 (by decide) g12 (fun c13 => ?_) (fun c13 => ?_)
      · have hM := xif hM c13
        obtain rfl := Option.some.inj hM
        refine xj_loc C [] (L1 := []) rfl ?_
        exact K
      · have hM := xit hM c13
        refine xj_aload_n C 0 dX4_spread_48 rfl rfl ?_
        refine xj_aload_n C 0 dX4_spread_49 rfl rfl ?_
        refine xj_get C (fun _ h => List.mem_cons_of_mem _ (List.mem_append_left _ (List.mem_append_left _ (List.mem_append_right _ h)))) 39 (eX_39 ad k S) rfl 3 (by decide) (List.mem_of_getElem? (i := 3) rfl) (fun _ _ h => h) rfl dX4_spread_50 ?_
        obtain ⟨r14, hRr14, hM⟩ := xbd hM
        refine xj_callV C [] [.ref (ad 39)] 0 (c_X7_take hRr14) gX4_spread_X7_take rfl ⟨rfl, rfl⟩ hv_X7_take ⟨Nat.le_of_ble_eq_true rfl, Nat.le_of_ble_eq_true rfl⟩ 42 (eX_42 ad k _) rfl rfl (Nat.le_of_ble_eq_true rfl) dX4_spread_53 ?_
        obtain ⟨r15, hRr15, hM⟩ := xbd hM
        refine xj_callV C [.int (xi r14.1)] [] 1 (c_X4_spreadFrom hRr15) gX4_spread_X4_spreadFrom rfl ⟨rfl, rfl⟩ hv_X4_spreadFrom ⟨Nat.le_of_ble_eq_true rfl, Nat.le_of_ble_eq_true rfl⟩ 39 (eX_39 ad k _) rfl rfl (Nat.le_of_ble_eq_true rfl) dX4_spread_56 ?_
        refine xj_iinc C 1 (L1 := [(1, .int (xi (v1 + 1))), (0, .ref (ad 39))]) dX4_spread_59 rfl (by decide) rfl ?_
        refine xj_goto C (tgt := 32) dX4_spread_62 (by decide) ?_
        refine xj_loc C [1, 0] (L1 := [(0, .ref (ad 39)), (1, .int (xi (v1 + 1)))]) rfl ?_
        exact ih _ _ _ hM K
set_option maxRecDepth 100000 in
set_option maxHeartbeats 4000000 in
theorem c_X4_spread {l : Launch} {D : va_G} {k : Nat → ClassId} {ad : Nat → Nat} {S : xS} {res : xS} (hM : m_X4_spread S = some res) : xM l yX4_spread wsX4_spread rmX4_spread D k [.ref (ad 39)] (wX ad k S) none (wX ad k res) := by
  refine xM_of (ret := none) (by decide) rfl (Nat.le_of_ble_eq_true rfl) (fun X C => ?_)
  have C : xC D k (xo X D k none (wX ad k res)) X cX4_spread 2 RX4 wsX4_spread none rmX4_spread := C
  show xJ l D k (xo X D k none (wX ad k res)) X 2 0 [(0, .ref (ad 39))] [] (wX ad k S)
  unfold m_X4_spread at hM
  refine xj_iconst C dX4_spread_0 ?_
  refine xj_istore_n C (L1 := [(1, .int (xi 0)), (0, .ref (ad 39))]) dX4_spread_1 rfl (by decide) rfl ?_
  obtain ⟨r8, hLr8, hM⟩ := xbd hM
  refine xj_loc C [1, 0] (L1 := [(0, .ref (ad 39)), (1, .int (xi 0))]) rfl ?_
  refine j_X4_spread_L2 C _ _ _ _ hLr8 ?_
  refine xj_iconst C dX4_spread_30 ?_
  refine xj_istore_n C (L1 := [(1, .int (xi 0)), (0, .ref (ad 39))]) dX4_spread_31 rfl (by decide) rfl ?_
  obtain ⟨r16, hLr16, hM⟩ := xbd hM
  refine xj_loc C [1, 0] (L1 := [(0, .ref (ad 39)), (1, .int (xi 0))]) rfl ?_
  refine j_X4_spread_L32 C _ _ _ _ hLr16 ?_
  obtain rfl := Option.some.inj hM
  exact xj_vret C rfl dX4_spread_65
def rmX4_startTree : Room := { frames := 0, cells := 0, slots := 0, locals := 0 }
theorem hv_X4_startTree : yX4_startTree.cls = RX4 ∧ yX4_startTree.cls ≠ "java/lang/invoke/MethodHandle" ∧ yX4_startTree.cls ≠ "java/lang/invoke/VarHandle" ∧ (parseMethodDescriptor yX4_startTree.desc).map (fun d => d.parameters.length) = some 1 := by decide +kernel
def m_X4_startTree_L2 (p1 : Int) : Nat → Int → xS → Option (xS)
  | 0, _, _ => none
  | n + 1, v2, S => xck (xr v2) (if 148 ≤ v2 then some S else (xck (xr p1) (if v2 = p1 then some 1 else some 0)).bind (fun r3 => xck ((0 ≤ v2 ∧ v2 < 148) ∧ (r3 = 0 ∨ r3 = 1)) (xck (0 ≤ v2 ∧ v2 < 148) (m_X4_startTree_L2 p1 n (v2 + 1) (xup (xup (xup S 21 v2 r3) 20 v2 1048576) 19 v2 ((1 + (3 * (S 17 v2))) + (S 18 v2)))))))
def m_X4_startTree (p1 : Int) (S : xS) : Option (xS) := (m_X4_startTree_L2 p1 2000 0 S).bind (fun r8 => some r8)
set_option maxRecDepth 100000 in
set_option maxHeartbeats 4000000 in
theorem j_X4_startTree_L2 {l : Launch} {D : va_G} {k : Nat → ClassId} {ad : Nat → Nat} {o : xO} {X : xX} (C : xC D k o X cX4_startTree 3 RX4 wsX4_startTree none rmX4_startTree) (p1 : Int) : ∀ (n : Nat) (v2 : Int) (S : xS) (r : xS), m_X4_startTree_L2 p1 n v2 S = some r → (xJ l D k o X 3 62 [] [] (wX ad k r)) → xJ l D k o X 3 2 [(0, .ref (ad 39)), (1, .int (xi p1)), (2, .int (xi v2))] [] (wX ad k S) := by
  intro n
  induction n with
  | zero =>
    intro v2 S r hM
    cases hM
  | succ n ih =>
    intro v2 S r hM K
    unfold m_X4_startTree_L2 at hM
    refine xj_iload_n C 2 dX4_startTree_2 rfl rfl ?_
    refine xj_sipush C (n := 148) (by decide) dX4_startTree_3 ?_
    obtain ⟨g1, hM⟩ := xck_some hM
    refine xj_icmp_ge C (tgt := 62) dX4_startTree_6 (by decide) ⟨g1, (by decide)⟩ (fun c2 => ?_) (fun c2 => ?_)
    · have hM := xit hM c2
      obtain rfl := Option.some.inj hM
      refine xj_loc C [] (L1 := []) rfl ?_
      exact K
    · have hM := xif hM c2
      refine xj_aload_n C 0 dX4_startTree_9 rfl rfl ?_
      refine xj_get C (fun _ h => List.mem_cons_of_mem _ (List.mem_append_right _ h)) 39 (eX_39 ad k S) rfl 8 (by decide) (List.mem_of_getElem? (i := 1) rfl) (fun _ _ h => h) rfl dX4_startTree_10 ?_
      refine xj_iload_n C 2 dX4_startTree_13 rfl rfl ?_
      refine xj_iload_n C 2 dX4_startTree_14 rfl rfl ?_
      refine xj_iload_n C 1 dX4_startTree_15 rfl rfl ?_
      obtain ⟨r3, hRr3, hM⟩ := xbd hM
      have Kr3 : xJ l D k o X 3 24 [(0, .ref (ad 39)), (1, .int (xi p1)), (2, .int (xi v2))] [.int (xi r3), .int (xi v2), .ref (ad 21)] (wX ad k S) := by
        obtain ⟨g6, hM⟩ := xck_some hM
        refine xj_zast C 21 S 21 (eX_21 ad k S) (Nat.le_of_ble_eq_true rfl) g6.2 g6.1 (sX_21 ad k S v2 r3) dX4_startTree_24 ?_
        refine xj_aload_n C 0 dX4_startTree_25 rfl rfl ?_
        refine xj_get C (fun _ h => List.mem_cons_of_mem _ (List.mem_append_right _ h)) 39 (eX_39 ad k (xup S 21 v2 r3)) rfl 7 (by decide) (List.mem_of_getElem? (i := 2) rfl) (fun _ _ h => h) rfl dX4_startTree_26 ?_
        refine xj_iload_n C 2 dX4_startTree_29 rfl rfl ?_
        refine xj_ldc C (n := 1048576) (List.mem_of_getElem? (i := 3) rfl) (by decide) dX4_startTree_30 ?_
        obtain ⟨g7, hM⟩ := xck_some hM
        refine xj_iast C 20 (xup S 21 v2 r3) 20 (eX_20 ad k (xup S 21 v2 r3)) (Nat.le_of_ble_eq_true rfl) g7 (sX_20 ad k (xup S 21 v2 r3) v2 1048576) dX4_startTree_32 ?_
        refine xj_aload_n C 0 dX4_startTree_33 rfl rfl ?_
        refine xj_get C (fun _ h => List.mem_cons_of_mem _ (List.mem_append_right _ h)) 39 (eX_39 ad k (xup (xup S 21 v2 r3) 20 v2 1048576)) rfl 6 (by decide) (List.mem_of_getElem? (i := 4) rfl) (fun _ _ h => h) rfl dX4_startTree_34 ?_
        refine xj_iload_n C 2 dX4_startTree_37 rfl rfl ?_
        refine xj_iconst C dX4_startTree_38 ?_
        refine xj_iconst C dX4_startTree_39 ?_
        refine xj_aload_n C 0 dX4_startTree_40 rfl rfl ?_
        refine xj_get C (fun _ h => List.mem_cons_of_mem _ (List.mem_append_right _ h)) 39 (eX_39 ad k (xup (xup S 21 v2 r3) 20 v2 1048576)) rfl 4 (by decide) (List.mem_of_getElem? (i := 5) rfl) (fun _ _ h => h) rfl dX4_startTree_41 ?_
        refine xj_iload_n C 2 dX4_startTree_44 rfl rfl ?_
        refine xj_iald C 17 S 17 (eX_17 ad k (xup (xup S 21 v2 r3) 20 v2 1048576)) (Nat.le_of_ble_eq_true rfl) g7 dX4_startTree_45 ?_
        refine xj_imul C dX4_startTree_46 ?_
        refine xj_iadd C dX4_startTree_47 ?_
        refine xj_aload_n C 0 dX4_startTree_48 rfl rfl ?_
        refine xj_get C (fun _ h => List.mem_cons_of_mem _ (List.mem_append_right _ h)) 39 (eX_39 ad k (xup (xup S 21 v2 r3) 20 v2 1048576)) rfl 5 (by decide) (List.mem_of_getElem? (i := 6) rfl) (fun _ _ h => h) rfl dX4_startTree_49 ?_
        refine xj_iload_n C 2 dX4_startTree_52 rfl rfl ?_
        refine xj_iald C 18 S 18 (eX_18 ad k (xup (xup S 21 v2 r3) 20 v2 1048576)) (Nat.le_of_ble_eq_true rfl) g7 dX4_startTree_53 ?_
        refine xj_iadd C dX4_startTree_54 ?_
        refine xj_iast C 19 (xup (xup S 21 v2 r3) 20 v2 1048576) 19 (eX_19 ad k (xup (xup S 21 v2 r3) 20 v2 1048576)) (Nat.le_of_ble_eq_true rfl) g7 (sX_19 ad k (xup (xup S 21 v2 r3) 20 v2 1048576) v2 ((1 + (3 * (S 17 v2))) + (S 18 v2))) dX4_startTree_55 ?_
        refine xj_iinc C 2 (L1 := [(2, .int (xi (v2 + 1))), (0, .ref (ad 39)), (1, .int (xi p1))]) dX4_startTree_56 rfl (by decide) rfl ?_
        refine xj_goto C (tgt := 2) dX4_startTree_59 (by decide) ?_
        refine xj_loc C [1, 2, 0] (L1 := [(0, .ref (ad 39)), (1, .int (xi p1)), (2, .int (xi (v2 + 1)))]) rfl ?_
        exact ih _ _ _ hM K
      clear hM
      have hM := hRr3
      obtain ⟨g4, hM⟩ := xck_some hM
      refine xj_icmp_ne C (tgt := 23) dX4_startTree_16 (by decide) ⟨g1, g4⟩ (fun c5 => ?_) (fun c5 => ?_)
      · have hM := xif hM c5
        refine xj_iconst C dX4_startTree_23 ?_
        obtain rfl := Option.some.inj hM
        exact Kr3
      · have hM := xit hM c5
        refine xj_iconst C dX4_startTree_19 ?_
        refine xj_goto C (tgt := 24) dX4_startTree_20 (by decide) ?_
        obtain rfl := Option.some.inj hM
        exact Kr3
set_option maxRecDepth 100000 in
set_option maxHeartbeats 4000000 in
theorem c_X4_startTree {l : Launch} {D : va_G} {k : Nat → ClassId} {ad : Nat → Nat} {S : xS} {p1 : Int} {res : xS} (hM : m_X4_startTree p1 S = some res) : xM l yX4_startTree wsX4_startTree rmX4_startTree D k [.ref (ad 39), .int (xi p1)] (wX ad k S) none (wX ad k res) := by
  refine xM_of (ret := none) (by decide) rfl (Nat.le_of_ble_eq_true rfl) (fun X C => ?_)
  have C : xC D k (xo X D k none (wX ad k res)) X cX4_startTree 3 RX4 wsX4_startTree none rmX4_startTree := C
  show xJ l D k (xo X D k none (wX ad k res)) X 3 0 [(0, .ref (ad 39)), (1, .int (xi p1))] [] (wX ad k S)
  unfold m_X4_startTree at hM
  refine xj_iconst C dX4_startTree_0 ?_
  refine xj_istore_n C (L1 := [(2, .int (xi 0)), (0, .ref (ad 39)), (1, .int (xi p1))]) dX4_startTree_1 rfl (by decide) rfl ?_
  obtain ⟨r8, hLr8, hM⟩ := xbd hM
  refine xj_loc C [1, 2, 0] (L1 := [(0, .ref (ad 39)), (1, .int (xi p1)), (2, .int (xi 0))]) rfl ?_
  refine j_X4_startTree_L2 C p1 _ _ _ _ hLr8 ?_
  obtain rfl := Option.some.inj hM
  exact xj_vret C rfl dX4_startTree_62
def rmX4_wireOf : Room := { frames := 1, cells := 0, slots := 0, locals := 21 }
theorem hv_X4_wireOf : yX4_wireOf.cls = RX4 ∧ yX4_wireOf.cls ≠ "java/lang/invoke/MethodHandle" ∧ yX4_wireOf.cls ≠ "java/lang/invoke/VarHandle" ∧ (parseMethodDescriptor yX4_wireOf.desc).map (fun d => d.parameters.length) = some 1 := by decide +kernel
def m_X4_wireOf (p1 : Int) (S : xS) : Option (Int) := xck (xr p1) (if 10 ≤ p1 then some ((144 + p1) - 10) else (m_X3_siteOf p1 S).bind (fun r3 => (m_X1_outletOf r3).bind (fun r4 => some r4)))
set_option maxRecDepth 100000 in
set_option maxHeartbeats 4000000 in
theorem c_X4_wireOf {l : Launch} {D : va_G} {k : Nat → ClassId} {ad : Nat → Nat} {S : xS} {p1 : Int} {res : Int} (hM : m_X4_wireOf p1 S = some res) : xM l yX4_wireOf wsX4_wireOf rmX4_wireOf D k [.ref (ad 39), .int (xi p1)] (wX ad k S) (some (.int (xi res))) (wX ad k S) := by
  refine xM_of (ret := (some .int)) (by decide) rfl (Nat.le_of_ble_eq_true rfl) (fun X C => ?_)
  have C : xC D k (xo X D k (some (.int (xi res))) (wX ad k S)) X cX4_wireOf 2 RX4 wsX4_wireOf (some .int) rmX4_wireOf := C
  show xJ l D k (xo X D k (some (.int (xi res))) (wX ad k S)) X 2 0 [(0, .ref (ad 39)), (1, .int (xi p1))] [] (wX ad k S)
  unfold m_X4_wireOf at hM
  refine xj_iload_n C 1 dX4_wireOf_0 rfl rfl ?_
  refine xj_bipush C (n := 10) (by decide) dX4_wireOf_1 ?_
  obtain ⟨g1, hM⟩ := xck_some hM
  refine xj_icmp_ge C (tgt := 18) dX4_wireOf_3 (by decide) ⟨g1, (by decide)⟩ (fun c2 => ?_) (fun c2 => ?_)
  · have hM := xit hM c2
    refine xj_sipush C (n := 144) (by decide) dX4_wireOf_18 ?_
    refine xj_iload_n C 1 dX4_wireOf_21 rfl rfl ?_
    refine xj_iadd C dX4_wireOf_22 ?_
    refine xj_bipush C (n := 10) (by decide) dX4_wireOf_23 ?_
    refine xj_isub C dX4_wireOf_25 ?_
    obtain rfl := Option.some.inj hM
    exact xj_iret C rfl dX4_wireOf_26
  · have hM := xif hM c2
    refine xj_aload_n C 0 dX4_wireOf_6 rfl rfl ?_
    refine xj_get C (fun _ h => List.mem_cons_of_mem _ (List.mem_append_left _ (List.mem_append_right _ h))) 39 (eX_39 ad k S) rfl 2 (by decide) (List.mem_of_getElem? (i := 1) rfl) (fun _ _ h => h) rfl dX4_wireOf_7 ?_
    refine xj_iload_n C 1 dX4_wireOf_10 rfl rfl ?_
    obtain ⟨r3, hRr3, hM⟩ := xbd hM
    refine xj_callV C [.int (xi p1)] [] 1 (c_X3_siteOf hRr3) gX4_wireOf_X3_siteOf rfl ⟨rfl, rfl⟩ hv_X3_siteOf ⟨Nat.le_of_ble_eq_true rfl, Nat.le_of_ble_eq_true rfl⟩ 38 (eX_38 ad k _) rfl rfl (Nat.le_of_ble_eq_true rfl) dX4_wireOf_11 ?_
    obtain ⟨r4, hRr4, hM⟩ := xbd hM
    refine xj_callS C [.int (xi r3)] [] 1 (c_X1_outletOf hRr4) gX4_wireOf_X1_outletOf rfl ⟨rfl, rfl⟩ hv_X1_outletOf ⟨Nat.le_of_ble_eq_true rfl, Nat.le_of_ble_eq_true rfl⟩ rfl (Nat.le_of_ble_eq_true rfl) dX4_wireOf_14 ?_
    obtain rfl := Option.some.inj hM
    exact xj_iret C rfl dX4_wireOf_17
def rmX4_routeNet : Room := { frames := 4, cells := 0, slots := 0, locals := 87 }
theorem hv_X4_routeNet : yX4_routeNet.cls = RX4 ∧ yX4_routeNet.cls ≠ "java/lang/invoke/MethodHandle" ∧ yX4_routeNet.cls ≠ "java/lang/invoke/VarHandle" ∧ (parseMethodDescriptor yX4_routeNet.desc).map (fun d => d.parameters.length) = some 1 := by decide +kernel
def m_X4_routeNet_L11 (p1 : Int) : Nat → Int → xS → Option ((xS) ⊕ (Int × xS))
  | 0, _, _ => none
  | n + 1, v2, S => (m_X2_sinksOf p1 S).bind (fun r3 => xck (xr v2 ∧ xr r3) (if r3 ≤ v2 then some (.inl S) else (m_X4_spread S).bind (fun r6 => (m_X2_sinkAt p1 v2 r6).bind (fun r7 => (m_X4_endOfWay r7 r6).bind (fun r8 => xck (xr r8.1) (if r8.1 = (-1) then some (.inr (0, r8.2)) else xck (0 ≤ r8.1 ∧ r8.1 < 148) (xck (xr (r8.2 20 r8.1)) (if (r8.2 20 r8.1) < 1048576 then (m_X4_followBack r8.1 r8.2).bind (fun r14 => m_X4_routeNet_L11 p1 n (v2 + 1) r14) else some (.inr (0, r8.2))))))))))
def m_X4_routeNet_L72 : Nat → Int → xS → Option (xS)
  | 0, _, _ => none
  | n + 1, v2, S => xck (xr v2) (if 148 ≤ v2 then some S else xck (0 ≤ v2 ∧ v2 < 148) ((xck (xr (S 21 v2)) (if (S 21 v2) = 0 then some 0 else some 1)).bind (fun r21 => m_X4_routeNet_L72 n (v2 + 1) (xup S 17 v2 ((S 17 v2) + r21)))))
def m_X4_routeNet (p1 : Int) (S : xS) : Option (Int × xS) := (m_X4_wireOf p1 S).bind (fun r1 => (m_X4_startTree r1 S).bind (fun r2 => (m_X4_routeNet_L11 p1 2000 0 r2).bind (fun r15 => match r15 with | .inl t16 => (m_X4_routeNet_L72 2000 0 t16).bind (fun r24 => some (1, r24)) | .inr y17 => some y17)))
set_option maxRecDepth 100000 in
set_option maxHeartbeats 4000000 in
theorem j_X4_routeNet_L11 {l : Launch} {D : va_G} {k : Nat → ClassId} {ad : Nat → Nat} {o : xO} {X : xX} (C : xC D k o X cX4_routeNet 4 RX4 wsX4_routeNet (some .boolean) rmX4_routeNet) (p1 : Int) : ∀ (n : Nat) (v2 : Int) (S : xS) (r : (xS) ⊕ (Int × xS)), m_X4_routeNet_L11 p1 n v2 S = some r → (∀ t, r = .inl t → xJ l D k o X 4 70 [(0, .ref (ad 39))] [] (wX ad k t)) → (∀ x, r = .inr x → o = (xo X D k (some (.int (xi x.1))) (wX ad k x.2))) → xJ l D k o X 4 11 [(0, .ref (ad 39)), (1, .int (xi p1)), (2, .int (xi v2))] [] (wX ad k S) := by
  intro n
  induction n with
  | zero =>
    intro v2 S r hM
    cases hM
  | succ n ih =>
    intro v2 S r hM K K2
    unfold m_X4_routeNet_L11 at hM
    refine xj_iload_n C 2 dX4_routeNet_11 rfl rfl ?_
    refine xj_aload_n C 0 dX4_routeNet_12 rfl rfl ?_
    refine xj_get C (fun _ h => List.mem_cons_of_mem _ (List.mem_append_left _ (List.mem_append_left _ (List.mem_append_left _ (List.mem_append_left _ (List.mem_append_right _ h)))))) 39 (eX_39 ad k S) rfl 1 (by decide) (List.mem_of_getElem? (i := 1) rfl) (fun _ _ h => h) rfl dX4_routeNet_13 ?_
    refine xj_iload_n C 1 dX4_routeNet_16 rfl rfl ?_
    obtain ⟨r3, hRr3, hM⟩ := xbd hM
    refine xj_callV C [.int (xi p1)] [.int (xi v2)] 1 (c_X2_sinksOf hRr3) gX4_routeNet_X2_sinksOf rfl ⟨rfl, rfl⟩ hv_X2_sinksOf ⟨Nat.le_of_ble_eq_true rfl, Nat.le_of_ble_eq_true rfl⟩ 37 (eX_37 ad k _) rfl rfl (Nat.le_of_ble_eq_true rfl) dX4_routeNet_17 ?_
    obtain ⟨g4, hM⟩ := xck_some hM
    refine xj_icmp_ge C (tgt := 70) dX4_routeNet_20 (by decide) ⟨g4.1, g4.2⟩ (fun c5 => ?_) (fun c5 => ?_)
    · have hM := xit hM c5
      obtain rfl := Option.some.inj hM
      refine xj_loc C [0] (L1 := [(0, .ref (ad 39))]) rfl ?_
      exact K _ rfl
    · have hM := xif hM c5
      refine xj_aload_n C 0 dX4_routeNet_23 rfl rfl ?_
      obtain ⟨r6, hRr6, hM⟩ := xbd hM
      refine xj_callV C [] [] 0 (c_X4_spread hRr6) gX4_routeNet_X4_spread rfl ⟨rfl, rfl⟩ hv_X4_spread ⟨Nat.le_of_ble_eq_true rfl, Nat.le_of_ble_eq_true rfl⟩ 39 (eX_39 ad k _) rfl rfl (Nat.le_of_ble_eq_true rfl) dX4_routeNet_24 ?_
      refine xj_aload_n C 0 dX4_routeNet_27 rfl rfl ?_
      refine xj_aload_n C 0 dX4_routeNet_28 rfl rfl ?_
      refine xj_get C (fun _ h => List.mem_cons_of_mem _ (List.mem_append_left _ (List.mem_append_left _ (List.mem_append_left _ (List.mem_append_left _ (List.mem_append_right _ h)))))) 39 (eX_39 ad k r6) rfl 1 (by decide) (List.mem_of_getElem? (i := 1) rfl) (fun _ _ h => h) rfl dX4_routeNet_29 ?_
      refine xj_iload_n C 1 dX4_routeNet_32 rfl rfl ?_
      refine xj_iload_n C 2 dX4_routeNet_33 rfl rfl ?_
      obtain ⟨r7, hRr7, hM⟩ := xbd hM
      refine xj_callV C [.int (xi p1), .int (xi v2)] [.ref (ad 39)] 2 (c_X2_sinkAt hRr7) gX4_routeNet_X2_sinkAt rfl ⟨rfl, rfl⟩ hv_X2_sinkAt ⟨Nat.le_of_ble_eq_true rfl, Nat.le_of_ble_eq_true rfl⟩ 37 (eX_37 ad k _) rfl rfl (Nat.le_of_ble_eq_true rfl) dX4_routeNet_34 ?_
      obtain ⟨r8, hRr8, hM⟩ := xbd hM
      refine xj_callV C [.int (xi r7)] [] 1 (c_X4_endOfWay hRr8) gX4_routeNet_X4_endOfWay rfl ⟨rfl, rfl⟩ hv_X4_endOfWay ⟨Nat.le_of_ble_eq_true rfl, Nat.le_of_ble_eq_true rfl⟩ 39 (eX_39 ad k _) rfl rfl (Nat.le_of_ble_eq_true rfl) dX4_routeNet_37 ?_
      refine xj_istore_n C (L1 := [(3, .int (xi r8.1)), (0, .ref (ad 39)), (1, .int (xi p1)), (2, .int (xi v2))]) dX4_routeNet_40 rfl (by decide) rfl ?_
      refine xj_iload_n C 0 dX4_routeNet_41 rfl rfl ?_
      refine xj_iconst C dX4_routeNet_42 ?_
      obtain ⟨g9, hM⟩ := xck_some hM
      refine xj_icmp_eq C (tgt := 57) dX4_routeNet_43 (by decide) ⟨g9, (by decide)⟩ (fun c10 => ?_) (fun c10 => ?_)
      · have hM := xit hM c10
        refine xj_iconst C dX4_routeNet_57 ?_
        obtain rfl := Option.some.inj hM
        obtain rfl := K2 _ rfl
        exact xj_zret (Or.inl rfl) C rfl dX4_routeNet_58
      · have hM := xif hM c10
        refine xj_aload_n C 1 dX4_routeNet_46 rfl rfl ?_
        refine xj_get C (fun _ h => List.mem_cons_of_mem _ (List.mem_append_left _ (List.mem_append_left _ (List.mem_append_left _ (List.mem_append_left _ (List.mem_append_right _ h)))))) 39 (eX_39 ad k r8.2) rfl 7 (by decide) (List.mem_of_getElem? (i := 2) rfl) (fun _ _ h => h) rfl dX4_routeNet_47 ?_
        refine xj_iload_n C 0 dX4_routeNet_50 rfl rfl ?_
        obtain ⟨g11, hM⟩ := xck_some hM
        refine xj_iald C 20 r8.2 20 (eX_20 ad k r8.2) (Nat.le_of_ble_eq_true rfl) g11 dX4_routeNet_51 ?_
        refine xj_ldc C (n := 1048576) (List.mem_of_getElem? (i := 3) rfl) (by decide) dX4_routeNet_52 ?_
        obtain ⟨g12, hM⟩ := xck_some hM
        refine xj_icmp_lt C (tgt := 59) dX4_routeNet_54 (by decide) ⟨g12, (by decide)⟩ (fun c13 => ?_) (fun c13 => ?_)
        · have hM := xit hM c13
          refine xj_aload_n C 1 dX4_routeNet_59 rfl rfl ?_
          refine xj_iload_n C 0 dX4_routeNet_60 rfl rfl ?_
          obtain ⟨r14, hRr14, hM⟩ := xbd hM
          refine xj_callV C [.int (xi r8.1)] [] 1 (c_X4_followBack hRr14) gX4_routeNet_X4_followBack rfl ⟨rfl, rfl⟩ hv_X4_followBack ⟨Nat.le_of_ble_eq_true rfl, Nat.le_of_ble_eq_true rfl⟩ 39 (eX_39 ad k _) rfl rfl (Nat.le_of_ble_eq_true rfl) dX4_routeNet_61 ?_
          refine xj_iinc C 3 (L1 := [(2, .int (xi (v2 + 1))), (3, .int (xi r8.1)), (0, .ref (ad 39)), (1, .int (xi p1))]) dX4_routeNet_64 rfl (by decide) rfl ?_
          refine xj_goto C (tgt := 11) dX4_routeNet_67 (by decide) ?_
          refine xj_loc C [2, 3, 0] (L1 := [(0, .ref (ad 39)), (1, .int (xi p1)), (2, .int (xi (v2 + 1)))]) rfl ?_
          exact ih _ _ _ hM K K2
        · have hM := xif hM c13
          refine xj_iconst C dX4_routeNet_57 ?_
          obtain rfl := Option.some.inj hM
          obtain rfl := K2 _ rfl
          exact xj_zret (Or.inl rfl) C rfl dX4_routeNet_58
set_option maxRecDepth 100000 in
set_option maxHeartbeats 4000000 in
theorem j_X4_routeNet_L72 {l : Launch} {D : va_G} {k : Nat → ClassId} {ad : Nat → Nat} {o : xO} {X : xX} (C : xC D k o X cX4_routeNet 4 RX4 wsX4_routeNet (some .boolean) rmX4_routeNet) : ∀ (n : Nat) (v2 : Int) (S : xS) (r : xS), m_X4_routeNet_L72 n v2 S = some r → (xJ l D k o X 4 108 [] [] (wX ad k r)) → xJ l D k o X 4 72 [(0, .ref (ad 39)), (2, .int (xi v2))] [] (wX ad k S) := by
  intro n
  induction n with
  | zero =>
    intro v2 S r hM
    cases hM
  | succ n ih =>
    intro v2 S r hM K
    unfold m_X4_routeNet_L72 at hM
    refine xj_iload_n C 1 dX4_routeNet_72 rfl rfl ?_
    refine xj_sipush C (n := 148) (by decide) dX4_routeNet_73 ?_
    obtain ⟨g18, hM⟩ := xck_some hM
    refine xj_icmp_ge C (tgt := 108) dX4_routeNet_76 (by decide) ⟨g18, (by decide)⟩ (fun c19 => ?_) (fun c19 => ?_)
    · have hM := xit hM c19
      obtain rfl := Option.some.inj hM
      refine xj_loc C [] (L1 := []) rfl ?_
      exact K
    · have hM := xif hM c19
      refine xj_aload_n C 0 dX4_routeNet_79 rfl rfl ?_
      refine xj_get C (fun _ h => List.mem_cons_of_mem _ (List.mem_append_left _ (List.mem_append_left _ (List.mem_append_left _ (List.mem_append_left _ (List.mem_append_right _ h)))))) 39 (eX_39 ad k S) rfl 4 (by decide) (List.mem_of_getElem? (i := 4) rfl) (fun _ _ h => h) rfl dX4_routeNet_80 ?_
      refine xj_iload_n C 1 dX4_routeNet_83 rfl rfl ?_
      refine xj_dup2 C rfl rfl dX4_routeNet_84 ?_
      obtain ⟨g20, hM⟩ := xck_some hM
      refine xj_iald C 17 S 17 (eX_17 ad k S) (Nat.le_of_ble_eq_true rfl) g20 dX4_routeNet_85 ?_
      refine xj_aload_n C 0 dX4_routeNet_86 rfl rfl ?_
      refine xj_get C (fun _ h => List.mem_cons_of_mem _ (List.mem_append_left _ (List.mem_append_left _ (List.mem_append_left _ (List.mem_append_left _ (List.mem_append_right _ h)))))) 39 (eX_39 ad k S) rfl 8 (by decide) (List.mem_of_getElem? (i := 5) rfl) (fun _ _ h => h) rfl dX4_routeNet_87 ?_
      refine xj_iload_n C 1 dX4_routeNet_90 rfl rfl ?_
      refine xj_zald C 21 S 21 (eX_21 ad k S) (Nat.le_of_ble_eq_true rfl) g20 dX4_routeNet_91 ?_
      obtain ⟨r21, hRr21, hM⟩ := xbd hM
      have Kr21 : xJ l D k o X 4 100 [(0, .ref (ad 39)), (2, .int (xi v2))] [.int (xi r21), .int (xi (S 17 v2)), .int (xi v2), .ref (ad 17)] (wX ad k S) := by
        refine xj_iadd C dX4_routeNet_100 ?_
        refine xj_iast C 17 S 17 (eX_17 ad k S) (Nat.le_of_ble_eq_true rfl) g20 (sX_17 ad k S v2 ((S 17 v2) + r21)) dX4_routeNet_101 ?_
        refine xj_iinc C 1 (L1 := [(2, .int (xi (v2 + 1))), (0, .ref (ad 39))]) dX4_routeNet_102 rfl (by decide) rfl ?_
        refine xj_goto C (tgt := 72) dX4_routeNet_105 (by decide) ?_
        refine xj_loc C [1, 0] (L1 := [(0, .ref (ad 39)), (2, .int (xi (v2 + 1)))]) rfl ?_
        exact ih _ _ _ hM K
      clear hM
      have hM := hRr21
      obtain ⟨g22, hM⟩ := xck_some hM
      refine xj_if_eq C (tgt := 99) dX4_routeNet_92 (by decide) g22 (fun c23 => ?_) (fun c23 => ?_)
      · have hM := xit hM c23
        refine xj_iconst C dX4_routeNet_99 ?_
        obtain rfl := Option.some.inj hM
        exact Kr21
      · have hM := xif hM c23
        refine xj_iconst C dX4_routeNet_95 ?_
        refine xj_goto C (tgt := 100) dX4_routeNet_96 (by decide) ?_
        obtain rfl := Option.some.inj hM
        exact Kr21
set_option maxRecDepth 100000 in
set_option maxHeartbeats 4000000 in
theorem c_X4_routeNet {l : Launch} {D : va_G} {k : Nat → ClassId} {ad : Nat → Nat} {S : xS} {p1 : Int} {res : Int × xS} (hM : m_X4_routeNet p1 S = some res) : xM l yX4_routeNet wsX4_routeNet rmX4_routeNet D k [.ref (ad 39), .int (xi p1)] (wX ad k S) (some (.int (xi res.1))) (wX ad k res.2) := by
  refine xM_of (ret := (some .boolean)) (by decide) rfl (Nat.le_of_ble_eq_true rfl) (fun X C => ?_)
  have C : xC D k (xo X D k (some (.int (xi res.1))) (wX ad k res.2)) X cX4_routeNet 4 RX4 wsX4_routeNet (some .boolean) rmX4_routeNet := C
  show xJ l D k (xo X D k (some (.int (xi res.1))) (wX ad k res.2)) X 4 0 [(0, .ref (ad 39)), (1, .int (xi p1))] [] (wX ad k S)
  unfold m_X4_routeNet at hM
  refine xj_aload_n C 0 dX4_routeNet_0 rfl rfl ?_
  refine xj_aload_n C 0 dX4_routeNet_1 rfl rfl ?_
  refine xj_iload_n C 1 dX4_routeNet_2 rfl rfl ?_
  obtain ⟨r1, hRr1, hM⟩ := xbd hM
  refine xj_callV C [.int (xi p1)] [.ref (ad 39)] 1 (c_X4_wireOf hRr1) gX4_routeNet_X4_wireOf rfl ⟨rfl, rfl⟩ hv_X4_wireOf ⟨Nat.le_of_ble_eq_true rfl, Nat.le_of_ble_eq_true rfl⟩ 39 (eX_39 ad k _) rfl rfl (Nat.le_of_ble_eq_true rfl) dX4_routeNet_3 ?_
  obtain ⟨r2, hRr2, hM⟩ := xbd hM
  refine xj_callV C [.int (xi r1)] [] 1 (c_X4_startTree hRr2) gX4_routeNet_X4_startTree rfl ⟨rfl, rfl⟩ hv_X4_startTree ⟨Nat.le_of_ble_eq_true rfl, Nat.le_of_ble_eq_true rfl⟩ 39 (eX_39 ad k _) rfl rfl (Nat.le_of_ble_eq_true rfl) dX4_routeNet_6 ?_
  refine xj_iconst C dX4_routeNet_9 ?_
  refine xj_istore_n C (L1 := [(2, .int (xi 0)), (0, .ref (ad 39)), (1, .int (xi p1))]) dX4_routeNet_10 rfl (by decide) rfl ?_
  obtain ⟨r15, hLr15, hM⟩ := xbd hM
  refine xj_loc C [1, 2, 0] (L1 := [(0, .ref (ad 39)), (1, .int (xi p1)), (2, .int (xi 0))]) rfl ?_
  rcases r15 with t16 | y17
  · refine j_X4_routeNet_L11 C p1 _ _ _ _ hLr15 (fun tz ez => ?_) (fun tz ez => by cases ez)
    obtain rfl := Sum.inl.inj ez
    try dsimp only at hM
    refine xj_iconst C dX4_routeNet_70 ?_
    refine xj_istore_n C (L1 := [(2, .int (xi 0)), (0, .ref (ad 39))]) dX4_routeNet_71 rfl (by decide) rfl ?_
    obtain ⟨r24, hLr24, hM⟩ := xbd hM
    refine xj_loc C [1, 0] (L1 := [(0, .ref (ad 39)), (2, .int (xi 0))]) rfl ?_
    refine j_X4_routeNet_L72 C _ _ _ _ hLr24 ?_
    refine xj_iconst C dX4_routeNet_108 ?_
    obtain rfl := Option.some.inj hM
    exact xj_zret (Or.inr rfl) C rfl dX4_routeNet_109
  · refine j_X4_routeNet_L11 C p1 _ _ _ _ hLr15 (fun tz ez => by cases ez) (fun tz ez => ?_)
    obtain rfl := Sum.inr.inj ez
    try dsimp only at hM
    obtain rfl := Option.some.inj hM
    rfl
def rmX4_routeAll : Room := { frames := 5, cells := 0, slots := 0, locals := 110 }
theorem hv_X4_routeAll : yX4_routeAll.cls = RX4 ∧ yX4_routeAll.cls ≠ "java/lang/invoke/MethodHandle" ∧ yX4_routeAll.cls ≠ "java/lang/invoke/VarHandle" ∧ (parseMethodDescriptor yX4_routeAll.desc).map (fun d => d.parameters.length) = some 0 := by decide +kernel
def m_X4_routeAll_L26 : Nat → Int → xS → Option ((xS) ⊕ (Int × xS))
  | 0, _, _ => none
  | n + 1, v1, S => xck (xr v1) (if 14 ≤ v1 then some (.inl S) else (m_X2_sinksOf v1 S).bind (fun r3 => xck (xr r3) (if r3 ≤ 0 then m_X4_routeAll_L26 n (v1 + 1) S else (m_X4_routeNet v1 S).bind (fun r6 => xck (xr r6.1) (if r6.1 = 0 then some (.inr (0, r6.2)) else m_X4_routeAll_L26 n (v1 + 1) r6.2)))))
def m_X4_routeAll (S : xS) : Option (Int × xS) := (m_X4_routeAll_L26 2000 0 (xfl (xfl (xfl S 17 148 0) 22 144 0) 23 48 0)).bind (fun r9 => match r9 with | .inl t10 => some (1, t10) | .inr y11 => some y11)
set_option maxRecDepth 100000 in
set_option maxHeartbeats 4000000 in
theorem j_X4_routeAll_L26 {l : Launch} {D : va_G} {k : Nat → ClassId} {ad : Nat → Nat} {o : xO} {X : xX} (C : xC D k o X cX4_routeAll 2 RX4 wsX4_routeAll (some .boolean) rmX4_routeAll) : ∀ (n : Nat) (v1 : Int) (S : xS) (r : (xS) ⊕ (Int × xS)), m_X4_routeAll_L26 n v1 S = some r → (∀ t, r = .inl t → xJ l D k o X 2 59 [] [] (wX ad k t)) → (∀ x, r = .inr x → o = (xo X D k (some (.int (xi x.1))) (wX ad k x.2))) → xJ l D k o X 2 26 [(0, .ref (ad 39)), (1, .int (xi v1))] [] (wX ad k S) := by
  intro n
  induction n with
  | zero =>
    intro v1 S r hM
    cases hM
  | succ n ih =>
    intro v1 S r hM K K2
    unfold m_X4_routeAll_L26 at hM
    refine xj_iload_n C 1 dX4_routeAll_26 rfl rfl ?_
    refine xj_bipush C (n := 14) (by decide) dX4_routeAll_27 ?_
    obtain ⟨g1, hM⟩ := xck_some hM
    refine xj_icmp_ge C (tgt := 59) dX4_routeAll_29 (by decide) ⟨g1, (by decide)⟩ (fun c2 => ?_) (fun c2 => ?_)
    · have hM := xit hM c2
      obtain rfl := Option.some.inj hM
      refine xj_loc C [] (L1 := []) rfl ?_
      exact K _ rfl
    · have hM := xif hM c2
      refine xj_aload_n C 0 dX4_routeAll_32 rfl rfl ?_
      refine xj_get C (fun _ h => List.mem_cons_of_mem _ (List.mem_append_left _ (List.mem_append_left _ (List.mem_append_left _ (List.mem_append_left _ (List.mem_append_right _ h)))))) 39 (eX_39 ad k S) rfl 1 (by decide) (List.mem_of_getElem? (i := 4) rfl) (fun _ _ h => h) rfl dX4_routeAll_33 ?_
      refine xj_iload_n C 1 dX4_routeAll_36 rfl rfl ?_
      obtain ⟨r3, hRr3, hM⟩ := xbd hM
      refine xj_callV C [.int (xi v1)] [] 1 (c_X2_sinksOf hRr3) gX4_routeAll_X2_sinksOf rfl ⟨rfl, rfl⟩ hv_X2_sinksOf ⟨Nat.le_of_ble_eq_true rfl, Nat.le_of_ble_eq_true rfl⟩ 37 (eX_37 ad k _) rfl rfl (Nat.le_of_ble_eq_true rfl) dX4_routeAll_37 ?_
      obtain ⟨g4, hM⟩ := xck_some hM
      refine xj_if_le C (tgt := 53) dX4_routeAll_40 (by decide) g4 (fun c5 => ?_) (fun c5 => ?_)
      · have hM := xit hM c5
        refine xj_iinc C 1 (L1 := [(1, .int (xi (v1 + 1))), (0, .ref (ad 39))]) dX4_routeAll_53 rfl (by decide) rfl ?_
        refine xj_goto C (tgt := 26) dX4_routeAll_56 (by decide) ?_
        refine xj_loc C [1, 0] (L1 := [(0, .ref (ad 39)), (1, .int (xi (v1 + 1)))]) rfl ?_
        exact ih _ _ _ hM K K2
      · have hM := xif hM c5
        refine xj_aload_n C 0 dX4_routeAll_43 rfl rfl ?_
        refine xj_iload_n C 1 dX4_routeAll_44 rfl rfl ?_
        obtain ⟨r6, hRr6, hM⟩ := xbd hM
        refine xj_callV C [.int (xi v1)] [] 1 (c_X4_routeNet hRr6) gX4_routeAll_X4_routeNet rfl ⟨rfl, rfl⟩ hv_X4_routeNet ⟨Nat.le_of_ble_eq_true rfl, Nat.le_of_ble_eq_true rfl⟩ 39 (eX_39 ad k _) rfl rfl (Nat.le_of_ble_eq_true rfl) dX4_routeAll_45 ?_
        obtain ⟨g7, hM⟩ := xck_some hM
        refine xj_if_ne C (tgt := 53) dX4_routeAll_48 (by decide) g7 (fun c8 => ?_) (fun c8 => ?_)
        · have hM := xif hM c8
          refine xj_iinc C 1 (L1 := [(1, .int (xi (v1 + 1))), (0, .ref (ad 39))]) dX4_routeAll_53 rfl (by decide) rfl ?_
          refine xj_goto C (tgt := 26) dX4_routeAll_56 (by decide) ?_
          refine xj_loc C [1, 0] (L1 := [(0, .ref (ad 39)), (1, .int (xi (v1 + 1)))]) rfl ?_
          exact ih _ _ _ hM K K2
        · have hM := xit hM c8
          refine xj_iconst C dX4_routeAll_51 ?_
          obtain rfl := Option.some.inj hM
          obtain rfl := K2 _ rfl
          exact xj_zret (Or.inl rfl) C rfl dX4_routeAll_52
set_option maxRecDepth 100000 in
set_option maxHeartbeats 4000000 in
theorem c_X4_routeAll {l : Launch} {D : va_G} {k : Nat → ClassId} {ad : Nat → Nat} {S : xS} {res : Int × xS} (hM : m_X4_routeAll S = some res) : xM l yX4_routeAll wsX4_routeAll rmX4_routeAll D k [.ref (ad 39)] (wX ad k S) (some (.int (xi res.1))) (wX ad k res.2) := by
  refine xM_of (ret := (some .boolean)) (by decide) rfl (Nat.le_of_ble_eq_true rfl) (fun X C => ?_)
  have C : xC D k (xo X D k (some (.int (xi res.1))) (wX ad k res.2)) X cX4_routeAll 2 RX4 wsX4_routeAll (some .boolean) rmX4_routeAll := C
  show xJ l D k (xo X D k (some (.int (xi res.1))) (wX ad k res.2)) X 2 0 [(0, .ref (ad 39))] [] (wX ad k S)
  unfold m_X4_routeAll at hM
  refine xj_aload_n C 0 dX4_routeAll_0 rfl rfl ?_
  refine xj_get C (fun _ h => List.mem_cons_of_mem _ (List.mem_append_left _ (List.mem_append_left _ (List.mem_append_left _ (List.mem_append_left _ (List.mem_append_right _ h)))))) 39 (eX_39 ad k S) rfl 4 (by decide) (List.mem_of_getElem? (i := 1) rfl) (fun _ _ h => h) rfl dX4_routeAll_1 ?_
  refine xj_iconst C dX4_routeAll_4 ?_
  refine xj_callS C [.ref (ad 17), .int (xi 0)] [] 2 (c_fill (eX_17 ad k S) (Nat.le_of_ble_eq_true rfl) (fX_17 ad k S 0)) gX4_routeAll_J7_fill_53178 rfl ⟨rfl, rfl⟩ hv_fill ⟨Nat.le_of_ble_eq_true rfl, Nat.le_of_ble_eq_true rfl⟩ rfl (Nat.le_of_ble_eq_true rfl) dX4_routeAll_5 ?_
  refine xj_aload_n C 0 dX4_routeAll_8 rfl rfl ?_
  refine xj_get C (fun _ h => List.mem_cons_of_mem _ (List.mem_append_left _ (List.mem_append_left _ (List.mem_append_left _ (List.mem_append_left _ (List.mem_append_right _ h)))))) 39 (eX_39 ad k (xfl S 17 148 0)) rfl 9 (by decide) (List.mem_of_getElem? (i := 2) rfl) (fun _ _ h => h) rfl dX4_routeAll_9 ?_
  refine xj_iconst C dX4_routeAll_12 ?_
  refine xj_callS C [.ref (ad 22), .int (xi 0)] [] 2 (c_fill (eX_22 ad k (xfl S 17 148 0)) (Nat.le_of_ble_eq_true rfl) (fX_22 ad k (xfl S 17 148 0) 0)) gX4_routeAll_J7_fill_53178 rfl ⟨rfl, rfl⟩ hv_fill ⟨Nat.le_of_ble_eq_true rfl, Nat.le_of_ble_eq_true rfl⟩ rfl (Nat.le_of_ble_eq_true rfl) dX4_routeAll_13 ?_
  refine xj_aload_n C 0 dX4_routeAll_16 rfl rfl ?_
  refine xj_get C (fun _ h => List.mem_cons_of_mem _ (List.mem_append_left _ (List.mem_append_left _ (List.mem_append_left _ (List.mem_append_left _ (List.mem_append_right _ h)))))) 39 (eX_39 ad k (xfl (xfl S 17 148 0) 22 144 0)) rfl 10 (by decide) (List.mem_of_getElem? (i := 3) rfl) (fun _ _ h => h) rfl dX4_routeAll_17 ?_
  refine xj_iconst C dX4_routeAll_20 ?_
  refine xj_callS C [.ref (ad 23), .int (xi 0)] [] 2 (c_fill (eX_23 ad k (xfl (xfl S 17 148 0) 22 144 0)) (Nat.le_of_ble_eq_true rfl) (fX_23 ad k (xfl (xfl S 17 148 0) 22 144 0) 0)) gX4_routeAll_J7_fill_53178 rfl ⟨rfl, rfl⟩ hv_fill ⟨Nat.le_of_ble_eq_true rfl, Nat.le_of_ble_eq_true rfl⟩ rfl (Nat.le_of_ble_eq_true rfl) dX4_routeAll_21 ?_
  refine xj_iconst C dX4_routeAll_24 ?_
  refine xj_istore_n C (L1 := [(1, .int (xi 0)), (0, .ref (ad 39))]) dX4_routeAll_25 rfl (by decide) rfl ?_
  obtain ⟨r9, hLr9, hM⟩ := xbd hM
  refine xj_loc C [1, 0] (L1 := [(0, .ref (ad 39)), (1, .int (xi 0))]) rfl ?_
  rcases r9 with t10 | y11
  · refine j_X4_routeAll_L26 C _ _ _ _ hLr9 (fun tz ez => ?_) (fun tz ez => by cases ez)
    obtain rfl := Sum.inl.inj ez
    try dsimp only at hM
    refine xj_iconst C dX4_routeAll_59 ?_
    obtain rfl := Option.some.inj hM
    exact xj_zret (Or.inr rfl) C rfl dX4_routeAll_60
  · refine j_X4_routeAll_L26 C _ _ _ _ hLr9 (fun tz ez => by cases ez) (fun tz ez => ?_)
    obtain rfl := Sum.inr.inj ez
    try dsimp only at hM
    obtain rfl := Option.some.inj hM
    rfl
def rmX4_route : Room := { frames := 6, cells := 0, slots := 0, locals := 131 }
theorem hv_X4_route : yX4_route.cls = RX4 ∧ yX4_route.cls ≠ "java/lang/invoke/MethodHandle" ∧ yX4_route.cls ≠ "java/lang/invoke/VarHandle" ∧ (parseMethodDescriptor yX4_route.desc).map (fun d => d.parameters.length) = some 0 := by decide +kernel
def m_X4_route_L10 : Nat → Int → xS → Option ((xS) ⊕ (Int × xS))
  | 0, _, _ => none
  | n + 1, v1, S => xck (xr v1) (if 12 < v1 then some (.inl S) else (m_X4_routeAll S).bind (fun r3 => xck (xr r3.1) (if r3.1 = 0 then some (.inr ((-3), r3.2)) else (m_X4_growHistory r3.2).bind (fun r6 => xck (xr r6.1) (if r6.1 = 0 then some (.inr (v1, r6.2)) else m_X4_route_L10 n (v1 + 1) r6.2)))))
def m_X4_route (S : xS) : Option (Int × xS) := (m_X4_route_L10 2000 1 (xfl S 18 148 0)).bind (fun r9 => match r9 with | .inl t10 => some ((-3), t10) | .inr y11 => some y11)
set_option maxRecDepth 100000 in
set_option maxHeartbeats 4000000 in
theorem j_X4_route_L10 {l : Launch} {D : va_G} {k : Nat → ClassId} {ad : Nat → Nat} {o : xO} {X : xX} (C : xC D k o X cX4_route 2 RX4 wsX4_route (some .int) rmX4_route) : ∀ (n : Nat) (v1 : Int) (S : xS) (r : (xS) ⊕ (Int × xS)), m_X4_route_L10 n v1 S = some r → (∀ t, r = .inl t → xJ l D k o X 2 41 [] [] (wX ad k t)) → (∀ x, r = .inr x → o = (xo X D k (some (.int (xi x.1))) (wX ad k x.2))) → xJ l D k o X 2 10 [(0, .ref (ad 39)), (1, .int (xi v1))] [] (wX ad k S) := by
  intro n
  induction n with
  | zero =>
    intro v1 S r hM
    cases hM
  | succ n ih =>
    intro v1 S r hM K K2
    unfold m_X4_route_L10 at hM
    refine xj_iload_n C 1 dX4_route_10 rfl rfl ?_
    refine xj_bipush C (n := 12) (by decide) dX4_route_11 ?_
    obtain ⟨g1, hM⟩ := xck_some hM
    refine xj_icmp_gt C (tgt := 41) dX4_route_13 (by decide) ⟨g1, (by decide)⟩ (fun c2 => ?_) (fun c2 => ?_)
    · have hM := xit hM c2
      obtain rfl := Option.some.inj hM
      refine xj_loc C [] (L1 := []) rfl ?_
      exact K _ rfl
    · have hM := xif hM c2
      refine xj_aload_n C 0 dX4_route_16 rfl rfl ?_
      obtain ⟨r3, hRr3, hM⟩ := xbd hM
      refine xj_callV C [] [] 0 (c_X4_routeAll hRr3) gX4_route_X4_routeAll rfl ⟨rfl, rfl⟩ hv_X4_routeAll ⟨Nat.le_of_ble_eq_true rfl, Nat.le_of_ble_eq_true rfl⟩ 39 (eX_39 ad k _) rfl rfl (Nat.le_of_ble_eq_true rfl) dX4_route_17 ?_
      obtain ⟨g4, hM⟩ := xck_some hM
      refine xj_if_ne C (tgt := 26) dX4_route_20 (by decide) g4 (fun c5 => ?_) (fun c5 => ?_)
      · have hM := xif hM c5
        refine xj_aload_n C 0 dX4_route_26 rfl rfl ?_
        obtain ⟨r6, hRr6, hM⟩ := xbd hM
        refine xj_callV C [] [] 0 (c_X4_growHistory hRr6) gX4_route_X4_growHistory rfl ⟨rfl, rfl⟩ hv_X4_growHistory ⟨Nat.le_of_ble_eq_true rfl, Nat.le_of_ble_eq_true rfl⟩ 39 (eX_39 ad k _) rfl rfl (Nat.le_of_ble_eq_true rfl) dX4_route_27 ?_
        obtain ⟨g7, hM⟩ := xck_some hM
        refine xj_if_ne C (tgt := 35) dX4_route_30 (by decide) g7 (fun c8 => ?_) (fun c8 => ?_)
        · have hM := xif hM c8
          refine xj_iinc C 1 (L1 := [(1, .int (xi (v1 + 1))), (0, .ref (ad 39))]) dX4_route_35 rfl (by decide) rfl ?_
          refine xj_goto C (tgt := 10) dX4_route_38 (by decide) ?_
          refine xj_loc C [1, 0] (L1 := [(0, .ref (ad 39)), (1, .int (xi (v1 + 1)))]) rfl ?_
          exact ih _ _ _ hM K K2
        · have hM := xit hM c8
          refine xj_iload_n C 1 dX4_route_33 rfl rfl ?_
          obtain rfl := Option.some.inj hM
          obtain rfl := K2 _ rfl
          exact xj_iret C rfl dX4_route_34
      · have hM := xit hM c5
        refine xj_bipush C (n := (-3)) (by decide) dX4_route_23 ?_
        obtain rfl := Option.some.inj hM
        obtain rfl := K2 _ rfl
        exact xj_iret C rfl dX4_route_25
set_option maxRecDepth 100000 in
set_option maxHeartbeats 4000000 in
theorem c_X4_route {l : Launch} {D : va_G} {k : Nat → ClassId} {ad : Nat → Nat} {S : xS} {res : Int × xS} (hM : m_X4_route S = some res) : xM l yX4_route wsX4_route rmX4_route D k [.ref (ad 39)] (wX ad k S) (some (.int (xi res.1))) (wX ad k res.2) := by
  refine xM_of (ret := (some .int)) (by decide) rfl (Nat.le_of_ble_eq_true rfl) (fun X C => ?_)
  have C : xC D k (xo X D k (some (.int (xi res.1))) (wX ad k res.2)) X cX4_route 2 RX4 wsX4_route (some .int) rmX4_route := C
  show xJ l D k (xo X D k (some (.int (xi res.1))) (wX ad k res.2)) X 2 0 [(0, .ref (ad 39))] [] (wX ad k S)
  unfold m_X4_route at hM
  refine xj_aload_n C 0 dX4_route_0 rfl rfl ?_
  refine xj_get C (fun _ h => List.mem_cons_of_mem _ (List.mem_append_left _ (List.mem_append_left _ (List.mem_append_left _ (List.mem_append_left _ (List.mem_append_right _ h)))))) 39 (eX_39 ad k S) rfl 5 (by decide) (List.mem_of_getElem? (i := 1) rfl) (fun _ _ h => h) rfl dX4_route_1 ?_
  refine xj_iconst C dX4_route_4 ?_
  refine xj_callS C [.ref (ad 18), .int (xi 0)] [] 2 (c_fill (eX_18 ad k S) (Nat.le_of_ble_eq_true rfl) (fX_18 ad k S 0)) gX4_route_J7_fill_53178 rfl ⟨rfl, rfl⟩ hv_fill ⟨Nat.le_of_ble_eq_true rfl, Nat.le_of_ble_eq_true rfl⟩ rfl (Nat.le_of_ble_eq_true rfl) dX4_route_5 ?_
  refine xj_iconst C dX4_route_8 ?_
  refine xj_istore_n C (L1 := [(1, .int (xi 1)), (0, .ref (ad 39))]) dX4_route_9 rfl (by decide) rfl ?_
  obtain ⟨r9, hLr9, hM⟩ := xbd hM
  refine xj_loc C [1, 0] (L1 := [(0, .ref (ad 39)), (1, .int (xi 1))]) rfl ?_
  rcases r9 with t10 | y11
  · refine j_X4_route_L10 C _ _ _ _ hLr9 (fun tz ez => ?_) (fun tz ez => by cases ez)
    obtain rfl := Sum.inl.inj ez
    try dsimp only at hM
    refine xj_bipush C (n := (-3)) (by decide) dX4_route_41 ?_
    obtain rfl := Option.some.inj hM
    exact xj_iret C rfl dX4_route_43
  · refine j_X4_route_L10 C _ _ _ _ hLr9 (fun tz ez => by cases ez) (fun tz ez => ?_)
    obtain rfl := Sum.inr.inj ez
    try dsimp only at hM
    obtain rfl := Option.some.inj hM
    rfl
def rmX4_settingsOf : Room := { frames := 1, cells := 0, slots := 0, locals := 20 }
theorem hv_X4_settingsOf : yX4_settingsOf.cls = RX4 ∧ yX4_settingsOf.cls ≠ "java/lang/invoke/MethodHandle" ∧ yX4_settingsOf.cls ≠ "java/lang/invoke/VarHandle" ∧ (parseMethodDescriptor yX4_settingsOf.desc).map (fun d => d.parameters.length) = some 1 := by decide +kernel
def m_X4_settingsOf_L17 (p1 : Int) (S : xS) : Nat → Int64 → Int → Option (Int64)
  | 0, _, _ => none
  | n + 1, v2, v4 => xck (xr v4) (if 3 ≤ v4 then some v2 else xck (0 ≤ ((p1 * 3) + v4) ∧ ((p1 * 3) + v4) < 48) (m_X4_settingsOf_L17 p1 S n (v2 ||| (((xi (S 23 ((p1 * 3) + v4))).toInt64) <<< ((xi (10 + (v4 * 4))).toInt64 &&& 63))) (v4 + 1)))
def m_X4_settingsOf_L59 (p1 : Int) (S : xS) : Nat → Int64 → Int → Option (Int64)
  | 0, _, _ => none
  | n + 1, v2, v4 => xck (xr v4) (if 8 ≤ v4 then some v2 else (m_X1_outletOf p1).bind (fun r10 => xck (0 ≤ ((r10 + 1) + v4) ∧ ((r10 + 1) + v4) < 144) (m_X4_settingsOf_L59 p1 S n (v2 ||| (((xi (S 22 ((r10 + 1) + v4))).toInt64) <<< ((xi (22 + (v4 * 3))).toInt64 &&& 63))) (v4 + 1))))
def m_X4_settingsOf (p1 : Int) (S : xS) : Option (Int64) := xck (xr p1) (if p1 < 0 then some (0 : Int64) else (if p1 < 16 then (m_X4_settingsOf_L17 p1 S 2000 (0 : Int64) 0).bind (fun r7 => (m_X4_settingsOf_L59 p1 S 2000 r7 0).bind (fun r12 => some r12)) else some (0 : Int64)))
set_option maxRecDepth 100000 in
set_option maxHeartbeats 4000000 in
theorem j_X4_settingsOf_L17 {l : Launch} {D : va_G} {k : Nat → ClassId} {ad : Nat → Nat} {o : xO} {X : xX} (C : xC D k o X cX4_settingsOf 7 RX4 wsX4_settingsOf (some .long) rmX4_settingsOf) (p1 : Int) (S : xS) : ∀ (n : Nat) (v2 : Int64) (v4 : Int) (r : Int64), m_X4_settingsOf_L17 p1 S n v2 v4 = some r → (xJ l D k o X 7 56 [(0, .ref (ad 39)), (1, .int (xi p1)), (2, .long r)] [] (wX ad k S)) → xJ l D k o X 7 17 [(0, .ref (ad 39)), (1, .int (xi p1)), (2, .long v2), (4, .int (xi v4))] [] (wX ad k S) := by
  intro n
  induction n with
  | zero =>
    intro v2 v4 r hM
    cases hM
  | succ n ih =>
    intro v2 v4 r hM K
    unfold m_X4_settingsOf_L17 at hM
    refine xj_iload C 3 dX4_settingsOf_17 rfl ?_
    refine xj_iconst C dX4_settingsOf_19 ?_
    obtain ⟨g4, hM⟩ := xck_some hM
    refine xj_icmp_ge C (tgt := 56) dX4_settingsOf_20 (by decide) ⟨g4, (by decide)⟩ (fun c5 => ?_) (fun c5 => ?_)
    · have hM := xit hM c5
      obtain rfl := Option.some.inj hM
      refine xj_loc C [0, 1, 2] (L1 := [(0, .ref (ad 39)), (1, .int (xi p1)), (2, .long v2)]) rfl ?_
      exact K
    · have hM := xif hM c5
      refine xj_aload_n C 0 dX4_settingsOf_23 rfl rfl ?_
      refine xj_get C (fun _ h => List.mem_cons_of_mem _ (List.mem_append_right _ h)) 39 (eX_39 ad k S) rfl 10 (by decide) (List.mem_of_getElem? (i := 1) rfl) (fun _ _ h => h) rfl dX4_settingsOf_24 ?_
      refine xj_iload_n C 1 dX4_settingsOf_27 rfl rfl ?_
      refine xj_iconst C dX4_settingsOf_28 ?_
      refine xj_imul C dX4_settingsOf_29 ?_
      refine xj_iload C 3 dX4_settingsOf_30 rfl ?_
      refine xj_iadd C dX4_settingsOf_32 ?_
      obtain ⟨g6, hM⟩ := xck_some hM
      refine xj_iald C 23 S 23 (eX_23 ad k S) (Nat.le_of_ble_eq_true rfl) g6 dX4_settingsOf_33 ?_
      refine xj_i2l C dX4_settingsOf_34 ?_
      refine xj_lstore C (L1 := [(5, .long ((xi (S 23 ((p1 * 3) + v4))).toInt64)), (0, .ref (ad 39)), (1, .int (xi p1)), (2, .long v2), (4, .int (xi v4))]) dX4_settingsOf_35 (by decide) rfl ?_
      refine xj_lload_n C 3 dX4_settingsOf_37 rfl rfl ?_
      refine xj_lload C 0 dX4_settingsOf_38 rfl ?_
      refine xj_bipush C (n := 10) (by decide) dX4_settingsOf_40 ?_
      refine xj_iload C 4 dX4_settingsOf_42 rfl ?_
      refine xj_iconst C dX4_settingsOf_44 ?_
      refine xj_imul C dX4_settingsOf_45 ?_
      refine xj_iadd C dX4_settingsOf_46 ?_
      refine xj_lshl C dX4_settingsOf_47 ?_
      refine xj_lor C dX4_settingsOf_48 ?_
      refine xj_lstore_n C (L1 := [(2, .long (v2 ||| (((xi (S 23 ((p1 * 3) + v4))).toInt64) <<< ((xi (10 + (v4 * 4))).toInt64 &&& 63)))), (5, .long ((xi (S 23 ((p1 * 3) + v4))).toInt64)), (0, .ref (ad 39)), (1, .int (xi p1)), (4, .int (xi v4))]) dX4_settingsOf_49 rfl (by decide) rfl ?_
      refine xj_iinc C 4 (L1 := [(4, .int (xi (v4 + 1))), (2, .long (v2 ||| (((xi (S 23 ((p1 * 3) + v4))).toInt64) <<< ((xi (10 + (v4 * 4))).toInt64 &&& 63)))), (5, .long ((xi (S 23 ((p1 * 3) + v4))).toInt64)), (0, .ref (ad 39)), (1, .int (xi p1))]) dX4_settingsOf_50 rfl (by decide) rfl ?_
      refine xj_goto C (tgt := 17) dX4_settingsOf_53 (by decide) ?_
      refine xj_loc C [3, 4, 1, 0] (L1 := [(0, .ref (ad 39)), (1, .int (xi p1)), (2, .long (v2 ||| (((xi (S 23 ((p1 * 3) + v4))).toInt64) <<< ((xi (10 + (v4 * 4))).toInt64 &&& 63)))), (4, .int (xi (v4 + 1)))]) rfl ?_
      exact ih _ _ _ hM K
set_option maxRecDepth 100000 in
set_option maxHeartbeats 4000000 in
theorem j_X4_settingsOf_L59 {l : Launch} {D : va_G} {k : Nat → ClassId} {ad : Nat → Nat} {o : xO} {X : xX} (C : xC D k o X cX4_settingsOf 7 RX4 wsX4_settingsOf (some .long) rmX4_settingsOf) (p1 : Int) (S : xS) : ∀ (n : Nat) (v2 : Int64) (v4 : Int) (r : Int64), m_X4_settingsOf_L59 p1 S n v2 v4 = some r → (xJ l D k o X 7 102 [(2, .long r)] [] (wX ad k S)) → xJ l D k o X 7 59 [(0, .ref (ad 39)), (1, .int (xi p1)), (2, .long v2), (4, .int (xi v4))] [] (wX ad k S) := by
  intro n
  induction n with
  | zero =>
    intro v2 v4 r hM
    cases hM
  | succ n ih =>
    intro v2 v4 r hM K
    unfold m_X4_settingsOf_L59 at hM
    refine xj_iload C 3 dX4_settingsOf_59 rfl ?_
    refine xj_bipush C (n := 8) (by decide) dX4_settingsOf_61 ?_
    obtain ⟨g8, hM⟩ := xck_some hM
    refine xj_icmp_ge C (tgt := 102) dX4_settingsOf_63 (by decide) ⟨g8, (by decide)⟩ (fun c9 => ?_) (fun c9 => ?_)
    · have hM := xit hM c9
      obtain rfl := Option.some.inj hM
      refine xj_loc C [2] (L1 := [(2, .long v2)]) rfl ?_
      exact K
    · have hM := xif hM c9
      refine xj_aload_n C 0 dX4_settingsOf_66 rfl rfl ?_
      refine xj_get C (fun _ h => List.mem_cons_of_mem _ (List.mem_append_right _ h)) 39 (eX_39 ad k S) rfl 9 (by decide) (List.mem_of_getElem? (i := 2) rfl) (fun _ _ h => h) rfl dX4_settingsOf_67 ?_
      refine xj_iload_n C 1 dX4_settingsOf_70 rfl rfl ?_
      obtain ⟨r10, hRr10, hM⟩ := xbd hM
      refine xj_callS C [.int (xi p1)] [.ref (ad 22)] 1 (c_X1_outletOf hRr10) gX4_settingsOf_X1_outletOf rfl ⟨rfl, rfl⟩ hv_X1_outletOf ⟨Nat.le_of_ble_eq_true rfl, Nat.le_of_ble_eq_true rfl⟩ rfl (Nat.le_of_ble_eq_true rfl) dX4_settingsOf_71 ?_
      refine xj_iconst C dX4_settingsOf_74 ?_
      refine xj_iadd C dX4_settingsOf_75 ?_
      refine xj_iload C 3 dX4_settingsOf_76 rfl ?_
      refine xj_iadd C dX4_settingsOf_78 ?_
      obtain ⟨g11, hM⟩ := xck_some hM
      refine xj_iald C 22 S 22 (eX_22 ad k S) (Nat.le_of_ble_eq_true rfl) g11 dX4_settingsOf_79 ?_
      refine xj_i2l C dX4_settingsOf_80 ?_
      refine xj_lstore C (L1 := [(5, .long ((xi (S 22 ((r10 + 1) + v4))).toInt64)), (0, .ref (ad 39)), (1, .int (xi p1)), (2, .long v2), (4, .int (xi v4))]) dX4_settingsOf_81 (by decide) rfl ?_
      refine xj_lload_n C 3 dX4_settingsOf_83 rfl rfl ?_
      refine xj_lload C 0 dX4_settingsOf_84 rfl ?_
      refine xj_bipush C (n := 22) (by decide) dX4_settingsOf_86 ?_
      refine xj_iload C 4 dX4_settingsOf_88 rfl ?_
      refine xj_iconst C dX4_settingsOf_90 ?_
      refine xj_imul C dX4_settingsOf_91 ?_
      refine xj_iadd C dX4_settingsOf_92 ?_
      refine xj_lshl C dX4_settingsOf_93 ?_
      refine xj_lor C dX4_settingsOf_94 ?_
      refine xj_lstore_n C (L1 := [(2, .long (v2 ||| (((xi (S 22 ((r10 + 1) + v4))).toInt64) <<< ((xi (22 + (v4 * 3))).toInt64 &&& 63)))), (5, .long ((xi (S 22 ((r10 + 1) + v4))).toInt64)), (0, .ref (ad 39)), (1, .int (xi p1)), (4, .int (xi v4))]) dX4_settingsOf_95 rfl (by decide) rfl ?_
      refine xj_iinc C 4 (L1 := [(4, .int (xi (v4 + 1))), (2, .long (v2 ||| (((xi (S 22 ((r10 + 1) + v4))).toInt64) <<< ((xi (22 + (v4 * 3))).toInt64 &&& 63)))), (5, .long ((xi (S 22 ((r10 + 1) + v4))).toInt64)), (0, .ref (ad 39)), (1, .int (xi p1))]) dX4_settingsOf_96 rfl (by decide) rfl ?_
      refine xj_goto C (tgt := 59) dX4_settingsOf_99 (by decide) ?_
      refine xj_loc C [3, 4, 1, 0] (L1 := [(0, .ref (ad 39)), (1, .int (xi p1)), (2, .long (v2 ||| (((xi (S 22 ((r10 + 1) + v4))).toInt64) <<< ((xi (22 + (v4 * 3))).toInt64 &&& 63)))), (4, .int (xi (v4 + 1)))]) rfl ?_
      exact ih _ _ _ hM K
set_option maxRecDepth 100000 in
set_option maxHeartbeats 4000000 in
theorem c_X4_settingsOf {l : Launch} {D : va_G} {k : Nat → ClassId} {ad : Nat → Nat} {S : xS} {p1 : Int} {res : Int64} (hM : m_X4_settingsOf p1 S = some res) : xM l yX4_settingsOf wsX4_settingsOf rmX4_settingsOf D k [.ref (ad 39), .int (xi p1)] (wX ad k S) (some (.long res)) (wX ad k S) := by
  refine xM_of (ret := (some .long)) (by decide) rfl (Nat.le_of_ble_eq_true rfl) (fun X C => ?_)
  have C : xC D k (xo X D k (some (.long res)) (wX ad k S)) X cX4_settingsOf 7 RX4 wsX4_settingsOf (some .long) rmX4_settingsOf := C
  show xJ l D k (xo X D k (some (.long res)) (wX ad k S)) X 7 0 [(0, .ref (ad 39)), (1, .int (xi p1))] [] (wX ad k S)
  unfold m_X4_settingsOf at hM
  refine xj_iload_n C 1 dX4_settingsOf_0 rfl rfl ?_
  obtain ⟨g1, hM⟩ := xck_some hM
  refine xj_if_lt C (tgt := 10) dX4_settingsOf_1 (by decide) g1 (fun c2 => ?_) (fun c2 => ?_)
  · have hM := xit hM c2
    refine xj_lconst C (v := 0) rfl dX4_settingsOf_10 ?_
    obtain rfl := Option.some.inj hM
    exact xj_lret C rfl dX4_settingsOf_11
  · have hM := xif hM c2
    refine xj_iload_n C 1 dX4_settingsOf_4 rfl rfl ?_
    refine xj_bipush C (n := 16) (by decide) dX4_settingsOf_5 ?_
    refine xj_icmp_lt C (tgt := 12) dX4_settingsOf_7 (by decide) ⟨g1, (by decide)⟩ (fun c3 => ?_) (fun c3 => ?_)
    · have hM := xit hM c3
      refine xj_lconst C (v := 0) rfl dX4_settingsOf_12 ?_
      refine xj_lstore_n C (L1 := [(2, .long (0 : Int64)), (0, .ref (ad 39)), (1, .int (xi p1))]) dX4_settingsOf_13 rfl (by decide) rfl ?_
      refine xj_iconst C dX4_settingsOf_14 ?_
      refine xj_istore C (L1 := [(4, .int (xi 0)), (2, .long (0 : Int64)), (0, .ref (ad 39)), (1, .int (xi p1))]) dX4_settingsOf_15 (by decide) rfl ?_
      obtain ⟨r7, hLr7, hM⟩ := xbd hM
      refine xj_loc C [2, 3, 1, 0] (L1 := [(0, .ref (ad 39)), (1, .int (xi p1)), (2, .long (0 : Int64)), (4, .int (xi 0))]) rfl ?_
      refine j_X4_settingsOf_L17 C p1 S _ _ _ _ hLr7 ?_
      refine xj_iconst C dX4_settingsOf_56 ?_
      refine xj_istore C (L1 := [(4, .int (xi 0)), (0, .ref (ad 39)), (1, .int (xi p1)), (2, .long r7)]) dX4_settingsOf_57 (by decide) rfl ?_
      obtain ⟨r12, hLr12, hM⟩ := xbd hM
      refine xj_loc C [1, 2, 3, 0] (L1 := [(0, .ref (ad 39)), (1, .int (xi p1)), (2, .long r7), (4, .int (xi 0))]) rfl ?_
      refine j_X4_settingsOf_L59 C p1 S _ _ _ _ hLr12 ?_
      refine xj_lload_n C 0 dX4_settingsOf_102 rfl rfl ?_
      obtain rfl := Option.some.inj hM
      exact xj_lret C rfl dX4_settingsOf_103
    · have hM := xif hM c3
      refine xj_lconst C (v := 0) rfl dX4_settingsOf_10 ?_
      obtain rfl := Option.some.inj hM
      exact xj_lret C rfl dX4_settingsOf_11
