/-! mirrors and contracts (by program: wip/whole/gen.py, mkparts.py) -/
def rmX6_arrival : Room := { frames := 1, cells := 0, slots := 0, locals := 21 }
theorem hv_X6_arrival : yX6_arrival.cls = RX6 ∧ yX6_arrival.cls ≠ "java/lang/invoke/MethodHandle" ∧ yX6_arrival.cls ≠ "java/lang/invoke/VarHandle" ∧ (parseMethodDescriptor yX6_arrival.desc).map (fun d => d.parameters.length) = some 1 := by decide +kernel
def m_X6_arrival (p1 : Int) (S : xS) : Option (Int) := (m_X5_originOf p1 S).bind (fun r1 => xck (xr r1) (if 0 ≤ r1 then ((if 16 ≤ r1 then some 0 else xck (0 ≤ r1 ∧ r1 < 16) (some (S 31 r1)))).bind (fun r4 => (m_X5_lengthOf p1 S).bind (fun r7 => some (r4 + (3 * r7)))) else some (-1)))
set_option maxRecDepth 100000 in
set_option maxHeartbeats 4000000 in
theorem c_X6_arrival {l : Launch} {D : va_G} {k : Nat → ClassId} {ad : Nat → Nat} {S : xS} {p1 : Int} {res : Int} (hM : m_X6_arrival p1 S = some res) : xM l yX6_arrival wsX6_arrival rmX6_arrival D k [.ref (ad 41), .int (xi p1)] (wX ad k S) (some (.int (xi res))) (wX ad k S) := by
  refine xM_of (ret := (some .int)) (by decide) rfl (Nat.le_of_ble_eq_true rfl) (fun X C => ?_)
  have C : xC D k (xo X D k (some (.int (xi res))) (wX ad k S)) X cX6_arrival 4 RX6 wsX6_arrival (some .int) rmX6_arrival := C
  show xJ l D k (xo X D k (some (.int (xi res))) (wX ad k S)) X 4 0 [(0, .ref (ad 41)), (1, .int (xi p1))] [] (wX ad k S)
  unfold m_X6_arrival at hM
  refine xj_aload_n C 0 dX6_arrival_0 rfl rfl ?_
  refine xj_get C (fun _ h => List.mem_cons_of_mem _ (List.mem_append_left _ (List.mem_append_right _ h))) 41 (eX_41 ad k S) rfl 0 (by decide) (List.mem_of_getElem? (i := 1) rfl) (fun _ _ h => h) rfl dX6_arrival_1 ?_
  refine xj_iload_n C 1 dX6_arrival_4 rfl rfl ?_
  obtain ⟨r1, hRr1, hM⟩ := xbd hM
  refine xj_callV C [.int (xi p1)] [] 1 (c_X5_originOf hRr1) gX6_arrival_X5_originOf rfl ⟨rfl, rfl⟩ hv_X5_originOf ⟨Nat.le_of_ble_eq_true rfl, Nat.le_of_ble_eq_true rfl⟩ 40 (eX_40 ad k _) rfl rfl (Nat.le_of_ble_eq_true rfl) dX6_arrival_5 ?_
  refine xj_istore_n C (L1 := [(2, .int (xi r1)), (0, .ref (ad 41)), (1, .int (xi p1))]) dX6_arrival_8 rfl (by decide) rfl ?_
  refine xj_iload_n C 0 dX6_arrival_9 rfl rfl ?_
  obtain ⟨g2, hM⟩ := xck_some hM
  refine xj_if_ge C (tgt := 15) dX6_arrival_10 (by decide) g2 (fun c3 => ?_) (fun c3 => ?_)
  · have hM := xit hM c3
    refine xj_iload_n C 0 dX6_arrival_15 rfl rfl ?_
    refine xj_bipush C (n := 16) (by decide) dX6_arrival_16 ?_
    obtain ⟨r4, hRr4, hM⟩ := xbd hM
    have Kr4 : xJ l D k (xo X D k (some (.int (xi res))) (wX ad k S)) X 4 31 [(0, .ref (ad 41)), (1, .int (xi p1))] [.int (xi r4)] (wX ad k S) := by
      refine xj_istore_n C (L1 := [(3, .int (xi r4)), (0, .ref (ad 41)), (1, .int (xi p1))]) dX6_arrival_31 rfl (by decide) rfl ?_
      refine xj_iload_n C 0 dX6_arrival_32 rfl rfl ?_
      refine xj_iconst C dX6_arrival_33 ?_
      refine xj_aload_n C 1 dX6_arrival_34 rfl rfl ?_
      refine xj_get C (fun _ h => List.mem_cons_of_mem _ (List.mem_append_left _ (List.mem_append_right _ h))) 41 (eX_41 ad k S) rfl 0 (by decide) (List.mem_of_getElem? (i := 1) rfl) (fun _ _ h => h) rfl dX6_arrival_35 ?_
      refine xj_iload_n C 2 dX6_arrival_38 rfl rfl ?_
      obtain ⟨r7, hRr7, hM⟩ := xbd hM
      refine xj_callV C [.int (xi p1)] [.int (xi 3), .int (xi r4)] 1 (c_X5_lengthOf hRr7) gX6_arrival_X5_lengthOf rfl ⟨rfl, rfl⟩ hv_X5_lengthOf ⟨Nat.le_of_ble_eq_true rfl, Nat.le_of_ble_eq_true rfl⟩ 40 (eX_40 ad k _) rfl rfl (Nat.le_of_ble_eq_true rfl) dX6_arrival_39 ?_
      refine xj_imul C dX6_arrival_42 ?_
      refine xj_iadd C dX6_arrival_43 ?_
      obtain rfl := Option.some.inj hM
      exact xj_iret C rfl dX6_arrival_44
    clear hM
    have hM := hRr4
    refine xj_icmp_ge C (tgt := 30) dX6_arrival_18 (by decide) ⟨g2, (by decide)⟩ (fun c5 => ?_) (fun c5 => ?_)
    · have hM := xit hM c5
      refine xj_iconst C dX6_arrival_30 ?_
      obtain rfl := Option.some.inj hM
      refine xj_loc C [1, 2] (L1 := [(0, .ref (ad 41)), (1, .int (xi p1))]) rfl ?_
      exact Kr4
    · have hM := xif hM c5
      refine xj_aload_n C 1 dX6_arrival_21 rfl rfl ?_
      refine xj_get C (fun _ h => List.mem_cons_of_mem _ (List.mem_append_left _ (List.mem_append_right _ h))) 41 (eX_41 ad k S) rfl 1 (by decide) (List.mem_of_getElem? (i := 2) rfl) (fun _ _ h => h) rfl dX6_arrival_22 ?_
      refine xj_iload_n C 0 dX6_arrival_25 rfl rfl ?_
      obtain ⟨g6, hM⟩ := xck_some hM
      refine xj_iald C 31 S 31 (eX_31 ad k S) (Nat.le_of_ble_eq_true rfl) g6 dX6_arrival_26 ?_
      refine xj_goto C (tgt := 31) dX6_arrival_27 (by decide) ?_
      obtain rfl := Option.some.inj hM
      refine xj_loc C [1, 2] (L1 := [(0, .ref (ad 41)), (1, .int (xi p1))]) rfl ?_
      exact Kr4
  · have hM := xif hM c3
    refine xj_iconst C dX6_arrival_13 ?_
    obtain rfl := Option.some.inj hM
    exact xj_iret C rfl dX6_arrival_14
def rmX6_latestPin : Room := { frames := 2, cells := 0, slots := 0, locals := 44 }
theorem hv_X6_latestPin : yX6_latestPin.cls = RX6 ∧ yX6_latestPin.cls ≠ "java/lang/invoke/MethodHandle" ∧ yX6_latestPin.cls ≠ "java/lang/invoke/VarHandle" ∧ (parseMethodDescriptor yX6_latestPin.desc).map (fun d => d.parameters.length) = some 1 := by decide +kernel
def m_X6_latestPin_L4 (p1 : Int) (S : xS) : Nat → Int → Int → Option (Int)
  | 0, _, _ => none
  | n + 1, v2, v3 => xck (xr v3) (if 3 ≤ v3 then some v2 else (m_X6_arrival ((p1 * 3) + v3) S).bind (fun r3 => xck (xr v2 ∧ xr r3) (m_X6_latestPin_L4 p1 S n (xb_max v2 r3) (v3 + 1))))
def m_X6_latestPin (p1 : Int) (S : xS) : Option (Int) := (m_X6_latestPin_L4 p1 S 2000 (-1) 0).bind (fun r5 => some r5)
set_option maxRecDepth 100000 in
set_option maxHeartbeats 4000000 in
theorem j_X6_latestPin_L4 {l : Launch} {D : va_G} {k : Nat → ClassId} {ad : Nat → Nat} {o : xO} {X : xX} (C : xC D k o X cX6_latestPin 4 RX6 wsX6_latestPin (some .int) rmX6_latestPin) (p1 : Int) (S : xS) : ∀ (n : Nat) (v2 : Int) (v3 : Int) (r : Int), m_X6_latestPin_L4 p1 S n v2 v3 = some r → (xJ l D k o X 4 29 [(2, .int (xi r))] [] (wX ad k S)) → xJ l D k o X 4 4 [(0, .ref (ad 41)), (1, .int (xi p1)), (2, .int (xi v2)), (3, .int (xi v3))] [] (wX ad k S) := by
  intro n
  induction n with
  | zero =>
    intro v2 v3 r hM
    cases hM
  | succ n ih =>
    intro v2 v3 r hM K
    unfold m_X6_latestPin_L4 at hM
    refine xj_iload_n C 3 dX6_latestPin_4 rfl rfl ?_
    refine xj_iconst C dX6_latestPin_5 ?_
    obtain ⟨g1, hM⟩ := xck_some hM
    refine xj_icmp_ge C (tgt := 29) dX6_latestPin_6 (by decide) ⟨g1, (by decide)⟩ (fun c2 => ?_) (fun c2 => ?_)
    · have hM := xit hM c2
      obtain rfl := Option.some.inj hM
      refine xj_loc C [2] (L1 := [(2, .int (xi v2))]) rfl ?_
      exact K
    · have hM := xif hM c2
      refine xj_iload_n C 2 dX6_latestPin_9 rfl rfl ?_
      refine xj_aload_n C 0 dX6_latestPin_10 rfl rfl ?_
      refine xj_iload_n C 1 dX6_latestPin_11 rfl rfl ?_
      refine xj_iconst C dX6_latestPin_12 ?_
      refine xj_imul C dX6_latestPin_13 ?_
      refine xj_iload_n C 3 dX6_latestPin_14 rfl rfl ?_
      refine xj_iadd C dX6_latestPin_15 ?_
      obtain ⟨r3, hRr3, hM⟩ := xbd hM
      refine xj_callV C [.int (xi ((p1 * 3) + v3))] [.int (xi v2)] 1 (c_X6_arrival hRr3) gX6_latestPin_X6_arrival rfl ⟨rfl, rfl⟩ hv_X6_arrival ⟨Nat.le_of_ble_eq_true rfl, Nat.le_of_ble_eq_true rfl⟩ 41 (eX_41 ad k _) rfl rfl (Nat.le_of_ble_eq_true rfl) dX6_latestPin_16 ?_
      obtain ⟨g4, hM⟩ := xck_some hM
      refine xj_mmax C ⟨g4.1, g4.2⟩ (List.mem_of_getElem? (i := 1) rfl) (List.mem_of_getElem? (i := 2) rfl) (List.mem_of_getElem? (i := 3) rfl) (List.mem_of_getElem? (i := 4) rfl) (Nat.le_of_ble_eq_true rfl) (Nat.le_of_ble_eq_true rfl) dX6_latestPin_19 ?_
      refine xj_istore_n C (L1 := [(2, .int (xi (xb_max v2 r3))), (0, .ref (ad 41)), (1, .int (xi p1)), (3, .int (xi v3))]) dX6_latestPin_22 rfl (by decide) rfl ?_
      refine xj_iinc C 3 (L1 := [(3, .int (xi (v3 + 1))), (2, .int (xi (xb_max v2 r3))), (0, .ref (ad 41)), (1, .int (xi p1))]) dX6_latestPin_23 rfl (by decide) rfl ?_
      refine xj_goto C (tgt := 4) dX6_latestPin_26 (by decide) ?_
      refine xj_loc C [2, 3, 1, 0] (L1 := [(0, .ref (ad 41)), (1, .int (xi p1)), (2, .int (xi (xb_max v2 r3))), (3, .int (xi (v3 + 1)))]) rfl ?_
      exact ih _ _ _ hM K
set_option maxRecDepth 100000 in
set_option maxHeartbeats 4000000 in
theorem c_X6_latestPin {l : Launch} {D : va_G} {k : Nat → ClassId} {ad : Nat → Nat} {S : xS} {p1 : Int} {res : Int} (hM : m_X6_latestPin p1 S = some res) : xM l yX6_latestPin wsX6_latestPin rmX6_latestPin D k [.ref (ad 41), .int (xi p1)] (wX ad k S) (some (.int (xi res))) (wX ad k S) := by
  refine xM_of (ret := (some .int)) (by decide) rfl (Nat.le_of_ble_eq_true rfl) (fun X C => ?_)
  have C : xC D k (xo X D k (some (.int (xi res))) (wX ad k S)) X cX6_latestPin 4 RX6 wsX6_latestPin (some .int) rmX6_latestPin := C
  show xJ l D k (xo X D k (some (.int (xi res))) (wX ad k S)) X 4 0 [(0, .ref (ad 41)), (1, .int (xi p1))] [] (wX ad k S)
  unfold m_X6_latestPin at hM
  refine xj_iconst C dX6_latestPin_0 ?_
  refine xj_istore_n C (L1 := [(2, .int (xi (-1))), (0, .ref (ad 41)), (1, .int (xi p1))]) dX6_latestPin_1 rfl (by decide) rfl ?_
  refine xj_iconst C dX6_latestPin_2 ?_
  refine xj_istore_n C (L1 := [(3, .int (xi 0)), (2, .int (xi (-1))), (0, .ref (ad 41)), (1, .int (xi p1))]) dX6_latestPin_3 rfl (by decide) rfl ?_
  obtain ⟨r5, hLr5, hM⟩ := xbd hM
  refine xj_loc C [2, 3, 1, 0] (L1 := [(0, .ref (ad 41)), (1, .int (xi p1)), (2, .int (xi (-1))), (3, .int (xi 0))]) rfl ?_
  refine j_X6_latestPin_L4 C p1 S _ _ _ _ hLr5 ?_
  refine xj_iload_n C 0 dX6_latestPin_29 rfl rfl ?_
  obtain rfl := Option.some.inj hM
  exact xj_iret C rfl dX6_latestPin_30
def rmX6_pinsAreKnown : Room := { frames := 1, cells := 0, slots := 0, locals := 21 }
theorem hv_X6_pinsAreKnown : yX6_pinsAreKnown.cls = RX6 ∧ yX6_pinsAreKnown.cls ≠ "java/lang/invoke/MethodHandle" ∧ yX6_pinsAreKnown.cls ≠ "java/lang/invoke/VarHandle" ∧ (parseMethodDescriptor yX6_pinsAreKnown.desc).map (fun d => d.parameters.length) = some 1 := by decide +kernel
def m_X6_pinsAreKnown_L2 (p1 : Int) (S : xS) : Nat → Int → Option ((Unit) ⊕ (Int))
  | 0, _ => none
  | n + 1, v2 => xck (xr v2) (if 3 ≤ v2 then some (.inl ()) else (m_X5_originOf ((p1 * 3) + v2) S).bind (fun r3 => xck (xr r3) (if r3 < 0 then m_X6_pinsAreKnown_L2 p1 S n (v2 + 1) else (if 16 ≤ r3 then m_X6_pinsAreKnown_L2 p1 S n (v2 + 1) else xck (0 ≤ r3 ∧ r3 < 16) (xck (xr (S 32 r3)) (if (S 32 r3) = 0 then some (.inr 0) else m_X6_pinsAreKnown_L2 p1 S n (v2 + 1)))))))
def m_X6_pinsAreKnown (p1 : Int) (S : xS) : Option (Int) := (m_X6_pinsAreKnown_L2 p1 S 2000 0).bind (fun r10 => match r10 with | .inl t11 => some 1 | .inr y12 => some y12)
set_option maxRecDepth 100000 in
set_option maxHeartbeats 4000000 in
theorem j_X6_pinsAreKnown_L2 {l : Launch} {D : va_G} {k : Nat → ClassId} {ad : Nat → Nat} {o : xO} {X : xX} (C : xC D k o X cX6_pinsAreKnown 4 RX6 wsX6_pinsAreKnown (some .boolean) rmX6_pinsAreKnown) (p1 : Int) (S : xS) : ∀ (n : Nat) (v2 : Int) (r : (Unit) ⊕ (Int)), m_X6_pinsAreKnown_L2 p1 S n v2 = some r → (∀ t, r = .inl t → xJ l D k o X 4 47 [] [] (wX ad k S)) → (∀ x, r = .inr x → o = (xo X D k (some (.int (xi x))) (wX ad k S))) → xJ l D k o X 4 2 [(0, .ref (ad 41)), (1, .int (xi p1)), (2, .int (xi v2))] [] (wX ad k S) := by
  intro n
  induction n with
  | zero =>
    intro v2 r hM
    cases hM
  | succ n ih =>
    intro v2 r hM K K2
    unfold m_X6_pinsAreKnown_L2 at hM
    refine xj_iload_n C 2 dX6_pinsAreKnown_2 rfl rfl ?_
    refine xj_iconst C dX6_pinsAreKnown_3 ?_
    obtain ⟨g1, hM⟩ := xck_some hM
    refine xj_icmp_ge C (tgt := 47) dX6_pinsAreKnown_4 (by decide) ⟨g1, (by decide)⟩ (fun c2 => ?_) (fun c2 => ?_)
    · have hM := xit hM c2
      obtain rfl := Option.some.inj hM
      refine xj_loc C [] (L1 := []) rfl ?_
      exact K _ rfl
    · have hM := xif hM c2
      refine xj_aload_n C 0 dX6_pinsAreKnown_7 rfl rfl ?_
      refine xj_get C (fun _ h => List.mem_cons_of_mem _ (List.mem_append_left _ (List.mem_append_right _ h))) 41 (eX_41 ad k S) rfl 0 (by decide) (List.mem_of_getElem? (i := 1) rfl) (fun _ _ h => h) rfl dX6_pinsAreKnown_8 ?_
      refine xj_iload_n C 1 dX6_pinsAreKnown_11 rfl rfl ?_
      refine xj_iconst C dX6_pinsAreKnown_12 ?_
      refine xj_imul C dX6_pinsAreKnown_13 ?_
      refine xj_iload_n C 2 dX6_pinsAreKnown_14 rfl rfl ?_
      refine xj_iadd C dX6_pinsAreKnown_15 ?_
      obtain ⟨r3, hRr3, hM⟩ := xbd hM
      refine xj_callV C [.int (xi ((p1 * 3) + v2))] [] 1 (c_X5_originOf hRr3) gX6_pinsAreKnown_X5_originOf rfl ⟨rfl, rfl⟩ hv_X5_originOf ⟨Nat.le_of_ble_eq_true rfl, Nat.le_of_ble_eq_true rfl⟩ 40 (eX_40 ad k _) rfl rfl (Nat.le_of_ble_eq_true rfl) dX6_pinsAreKnown_16 ?_
      refine xj_istore_n C (L1 := [(3, .int (xi r3)), (0, .ref (ad 41)), (1, .int (xi p1)), (2, .int (xi v2))]) dX6_pinsAreKnown_19 rfl (by decide) rfl ?_
      refine xj_iload_n C 0 dX6_pinsAreKnown_20 rfl rfl ?_
      obtain ⟨g4, hM⟩ := xck_some hM
      refine xj_if_lt C (tgt := 41) dX6_pinsAreKnown_21 (by decide) g4 (fun c5 => ?_) (fun c5 => ?_)
      · have hM := xit hM c5
        refine xj_iinc C 3 (L1 := [(2, .int (xi (v2 + 1))), (3, .int (xi r3)), (0, .ref (ad 41)), (1, .int (xi p1))]) dX6_pinsAreKnown_41 rfl (by decide) rfl ?_
        refine xj_goto C (tgt := 2) dX6_pinsAreKnown_44 (by decide) ?_
        refine xj_loc C [2, 3, 0] (L1 := [(0, .ref (ad 41)), (1, .int (xi p1)), (2, .int (xi (v2 + 1)))]) rfl ?_
        exact ih _ _ hM K K2
      · have hM := xif hM c5
        refine xj_iload_n C 0 dX6_pinsAreKnown_24 rfl rfl ?_
        refine xj_bipush C (n := 16) (by decide) dX6_pinsAreKnown_25 ?_
        refine xj_icmp_ge C (tgt := 41) dX6_pinsAreKnown_27 (by decide) ⟨g4, (by decide)⟩ (fun c6 => ?_) (fun c6 => ?_)
        · have hM := xit hM c6
          refine xj_iinc C 3 (L1 := [(2, .int (xi (v2 + 1))), (3, .int (xi r3)), (0, .ref (ad 41)), (1, .int (xi p1))]) dX6_pinsAreKnown_41 rfl (by decide) rfl ?_
          refine xj_goto C (tgt := 2) dX6_pinsAreKnown_44 (by decide) ?_
          refine xj_loc C [2, 3, 0] (L1 := [(0, .ref (ad 41)), (1, .int (xi p1)), (2, .int (xi (v2 + 1)))]) rfl ?_
          exact ih _ _ hM K K2
        · have hM := xif hM c6
          refine xj_aload_n C 1 dX6_pinsAreKnown_30 rfl rfl ?_
          refine xj_get C (fun _ h => List.mem_cons_of_mem _ (List.mem_append_left _ (List.mem_append_right _ h))) 41 (eX_41 ad k S) rfl 2 (by decide) (List.mem_of_getElem? (i := 2) rfl) (fun _ _ h => h) rfl dX6_pinsAreKnown_31 ?_
          refine xj_iload_n C 0 dX6_pinsAreKnown_34 rfl rfl ?_
          obtain ⟨g7, hM⟩ := xck_some hM
          refine xj_zald C 32 S 32 (eX_32 ad k S) (Nat.le_of_ble_eq_true rfl) g7 dX6_pinsAreKnown_35 ?_
          obtain ⟨g8, hM⟩ := xck_some hM
          refine xj_if_ne C (tgt := 41) dX6_pinsAreKnown_36 (by decide) g8 (fun c9 => ?_) (fun c9 => ?_)
          · have hM := xif hM c9
            refine xj_iinc C 3 (L1 := [(2, .int (xi (v2 + 1))), (3, .int (xi r3)), (0, .ref (ad 41)), (1, .int (xi p1))]) dX6_pinsAreKnown_41 rfl (by decide) rfl ?_
            refine xj_goto C (tgt := 2) dX6_pinsAreKnown_44 (by decide) ?_
            refine xj_loc C [2, 3, 0] (L1 := [(0, .ref (ad 41)), (1, .int (xi p1)), (2, .int (xi (v2 + 1)))]) rfl ?_
            exact ih _ _ hM K K2
          · have hM := xit hM c9
            refine xj_iconst C dX6_pinsAreKnown_39 ?_
            obtain rfl := Option.some.inj hM
            obtain rfl := K2 _ rfl
            exact xj_zret (Or.inl rfl) C rfl dX6_pinsAreKnown_40
set_option maxRecDepth 100000 in
set_option maxHeartbeats 4000000 in
theorem c_X6_pinsAreKnown {l : Launch} {D : va_G} {k : Nat → ClassId} {ad : Nat → Nat} {S : xS} {p1 : Int} {res : Int} (hM : m_X6_pinsAreKnown p1 S = some res) : xM l yX6_pinsAreKnown wsX6_pinsAreKnown rmX6_pinsAreKnown D k [.ref (ad 41), .int (xi p1)] (wX ad k S) (some (.int (xi res))) (wX ad k S) := by
  refine xM_of (ret := (some .boolean)) (by decide) rfl (Nat.le_of_ble_eq_true rfl) (fun X C => ?_)
  have C : xC D k (xo X D k (some (.int (xi res))) (wX ad k S)) X cX6_pinsAreKnown 4 RX6 wsX6_pinsAreKnown (some .boolean) rmX6_pinsAreKnown := C
  show xJ l D k (xo X D k (some (.int (xi res))) (wX ad k S)) X 4 0 [(0, .ref (ad 41)), (1, .int (xi p1))] [] (wX ad k S)
  unfold m_X6_pinsAreKnown at hM
  refine xj_iconst C dX6_pinsAreKnown_0 ?_
  refine xj_istore_n C (L1 := [(2, .int (xi 0)), (0, .ref (ad 41)), (1, .int (xi p1))]) dX6_pinsAreKnown_1 rfl (by decide) rfl ?_
  obtain ⟨r10, hLr10, hM⟩ := xbd hM
  refine xj_loc C [1, 2, 0] (L1 := [(0, .ref (ad 41)), (1, .int (xi p1)), (2, .int (xi 0))]) rfl ?_
  rcases r10 with t11 | y12
  · refine j_X6_pinsAreKnown_L2 C p1 S _ _ _ hLr10 (fun tz ez => ?_) (fun tz ez => by cases ez)
    obtain rfl := Sum.inl.inj ez
    try dsimp only at hM
    refine xj_iconst C dX6_pinsAreKnown_47 ?_
    obtain rfl := Option.some.inj hM
    exact xj_zret (Or.inr rfl) C rfl dX6_pinsAreKnown_48
  · refine j_X6_pinsAreKnown_L2 C p1 S _ _ _ hLr10 (fun tz ez => by cases ez) (fun tz ez => ?_)
    obtain rfl := Sum.inr.inj ez
    try dsimp only at hM
    obtain rfl := Option.some.inj hM
    rfl
def rmX6_timeOutlets : Room := { frames := 3, cells := 0, slots := 0, locals := 67 }
theorem hv_X6_timeOutlets : yX6_timeOutlets.cls = RX6 ∧ yX6_timeOutlets.cls ≠ "java/lang/invoke/MethodHandle" ∧ yX6_timeOutlets.cls ≠ "java/lang/invoke/VarHandle" ∧ (parseMethodDescriptor yX6_timeOutlets.desc).map (fun d => d.parameters.length) = some 0 := by decide +kernel
def m_X6_timeOutlets_L4 : Nat → Int → Int → xS → Option (Int × xS)
  | 0, _, _, _ => none
  | n + 1, v1, v2, S => xck (xr v2) (if 16 ≤ v2 then some (v1, S) else (m_X5_hasRegister v2 S).bind (fun r3 => xck ((0 ≤ v2 ∧ v2 < 16) ∧ (r3 = 0 ∨ r3 = 1)) (xck (0 ≤ v2 ∧ v2 < 16) ((xck (xr ((xup S 32 v2 r3) 32 v2)) (if ((xup S 32 v2 r3) 32 v2) = 0 then some 1 else some 0)).bind (fun r6 => m_X6_timeOutlets_L4 n (v1 + r6) (v2 + 1) (xup (xup S 32 v2 r3) 31 v2 4))))))
def m_X6_timeOutlets_L68 (p2 : Int) : Nat → Int → Int → xS → Option (Int × xS)
  | 0, _, _, _ => none
  | n + 1, v1, v3, S => xck (xr v3) (if 16 ≤ v3 then some (v1, S) else xck (0 ≤ v3 ∧ v3 < 16) ((xck (xr (S 32 v3)) (if (S 32 v3) = 0 then (m_X6_pinsAreKnown v3 S).bind (fun r20 => xck (xr r20) (if r20 = 0 then some (v1, S) else (m_X6_latestPin v3 S).bind (fun r23 => xck (xr r23) (xck ((0 ≤ v3 ∧ v3 < 16)) (some ((v1 + (-1)), (xup (xup S 31 v3 (5 + (xb_max 0 r23))) 32 v3 1))))))) else some (v1, S))).bind (fun r17 => m_X6_timeOutlets_L68 p2 n r17.1 (v3 + 1) r17.2)))
def m_X6_timeOutlets_L56 : Nat → Int → Int → xS → Option (Int × xS)
  | 0, _, _, _ => none
  | n + 1, v1, v2, S => xck (xr v2) (if 16 ≤ v2 then some (v1, S) else xck (xr v1) (if v1 ≤ 0 then some (v1, S) else (m_X6_timeOutlets_L68 v2 2000 v1 0 S).bind (fun r26 => m_X6_timeOutlets_L56 n r26.1 (v2 + 1) r26.2)))
def m_X6_timeOutlets (S : xS) : Option (Int × xS) := (m_X6_timeOutlets_L4 2000 0 0 S).bind (fun r9 => (m_X6_timeOutlets_L56 2000 r9.1 0 r9.2).bind (fun r27 => xck (xr r27.1) (if r27.1 = 0 then some (1, r27.2) else some (0, r27.2))))
set_option maxRecDepth 100000 in
set_option maxHeartbeats 4000000 in
theorem j_X6_timeOutlets_L4 {l : Launch} {D : va_G} {k : Nat → ClassId} {ad : Nat → Nat} {o : xO} {X : xX} (C : xC D k o X cX6_timeOutlets 4 RX6 wsX6_timeOutlets (some .boolean) rmX6_timeOutlets) : ∀ (n : Nat) (v1 : Int) (v2 : Int) (S : xS) (r : Int × xS), m_X6_timeOutlets_L4 n v1 v2 S = some r → (xJ l D k o X 4 54 [(0, .ref (ad 41)), (1, .int (xi r.1))] [] (wX ad k r.2)) → xJ l D k o X 4 4 [(0, .ref (ad 41)), (1, .int (xi v1)), (2, .int (xi v2))] [] (wX ad k S) := by
  intro n
  induction n with
  | zero =>
    intro v1 v2 S r hM
    cases hM
  | succ n ih =>
    intro v1 v2 S r hM K
    unfold m_X6_timeOutlets_L4 at hM
    refine xj_iload_n C 2 dX6_timeOutlets_4 rfl rfl ?_
    refine xj_bipush C (n := 16) (by decide) dX6_timeOutlets_5 ?_
    obtain ⟨g1, hM⟩ := xck_some hM
    refine xj_icmp_ge C (tgt := 54) dX6_timeOutlets_7 (by decide) ⟨g1, (by decide)⟩ (fun c2 => ?_) (fun c2 => ?_)
    · have hM := xit hM c2
      obtain rfl := Option.some.inj hM
      refine xj_loc C [0, 1] (L1 := [(0, .ref (ad 41)), (1, .int (xi v1))]) rfl ?_
      exact K
    · have hM := xif hM c2
      refine xj_aload_n C 0 dX6_timeOutlets_10 rfl rfl ?_
      refine xj_get C (fun _ h => List.mem_cons_of_mem _ (List.mem_append_left _ (List.mem_append_right _ h))) 41 (eX_41 ad k S) rfl 2 (by decide) (List.mem_of_getElem? (i := 1) rfl) (fun _ _ h => h) rfl dX6_timeOutlets_11 ?_
      refine xj_iload_n C 2 dX6_timeOutlets_14 rfl rfl ?_
      refine xj_aload_n C 0 dX6_timeOutlets_15 rfl rfl ?_
      refine xj_get C (fun _ h => List.mem_cons_of_mem _ (List.mem_append_left _ (List.mem_append_right _ h))) 41 (eX_41 ad k S) rfl 0 (by decide) (List.mem_of_getElem? (i := 2) rfl) (fun _ _ h => h) rfl dX6_timeOutlets_16 ?_
      refine xj_iload_n C 2 dX6_timeOutlets_19 rfl rfl ?_
      obtain ⟨r3, hRr3, hM⟩ := xbd hM
      refine xj_callV C [.int (xi v2)] [.int (xi v2), .ref (ad 32)] 1 (c_X5_hasRegister hRr3) gX6_timeOutlets_X5_hasRegister rfl ⟨rfl, rfl⟩ hv_X5_hasRegister ⟨Nat.le_of_ble_eq_true rfl, Nat.le_of_ble_eq_true rfl⟩ 40 (eX_40 ad k _) rfl rfl (Nat.le_of_ble_eq_true rfl) dX6_timeOutlets_20 ?_
      obtain ⟨g4, hM⟩ := xck_some hM
      refine xj_zast C 32 S 32 (eX_32 ad k S) (Nat.le_of_ble_eq_true rfl) g4.2 g4.1 (sX_32 ad k S v2 r3) dX6_timeOutlets_23 ?_
      refine xj_aload_n C 0 dX6_timeOutlets_24 rfl rfl ?_
      refine xj_get C (fun _ h => List.mem_cons_of_mem _ (List.mem_append_left _ (List.mem_append_right _ h))) 41 (eX_41 ad k (xup S 32 v2 r3)) rfl 1 (by decide) (List.mem_of_getElem? (i := 3) rfl) (fun _ _ h => h) rfl dX6_timeOutlets_25 ?_
      refine xj_iload_n C 2 dX6_timeOutlets_28 rfl rfl ?_
      refine xj_iconst C dX6_timeOutlets_29 ?_
      obtain ⟨g5, hM⟩ := xck_some hM
      refine xj_iast C 31 (xup S 32 v2 r3) 31 (eX_31 ad k (xup S 32 v2 r3)) (Nat.le_of_ble_eq_true rfl) g5 (sX_31 ad k (xup S 32 v2 r3) v2 4) dX6_timeOutlets_30 ?_
      refine xj_iload_n C 1 dX6_timeOutlets_31 rfl rfl ?_
      refine xj_aload_n C 0 dX6_timeOutlets_32 rfl rfl ?_
      refine xj_get C (fun _ h => List.mem_cons_of_mem _ (List.mem_append_left _ (List.mem_append_right _ h))) 41 (eX_41 ad k (xup (xup S 32 v2 r3) 31 v2 4)) rfl 2 (by decide) (List.mem_of_getElem? (i := 1) rfl) (fun _ _ h => h) rfl dX6_timeOutlets_33 ?_
      refine xj_iload_n C 2 dX6_timeOutlets_36 rfl rfl ?_
      refine xj_zald C 32 (xup S 32 v2 r3) 32 (eX_32 ad k (xup (xup S 32 v2 r3) 31 v2 4)) (Nat.le_of_ble_eq_true rfl) g5 dX6_timeOutlets_37 ?_
      obtain ⟨r6, hRr6, hM⟩ := xbd hM
      have Kr6 : xJ l D k o X 4 46 [(0, .ref (ad 41)), (2, .int (xi v2))] [.int (xi r6), .int (xi v1)] (wX ad k (xup (xup S 32 v2 r3) 31 v2 4)) := by
        refine xj_iadd C dX6_timeOutlets_46 ?_
        refine xj_istore_n C (L1 := [(1, .int (xi (v1 + r6))), (0, .ref (ad 41)), (2, .int (xi v2))]) dX6_timeOutlets_47 rfl (by decide) rfl ?_
        refine xj_iinc C 2 (L1 := [(2, .int (xi (v2 + 1))), (1, .int (xi (v1 + r6))), (0, .ref (ad 41))]) dX6_timeOutlets_48 rfl (by decide) rfl ?_
        refine xj_goto C (tgt := 4) dX6_timeOutlets_51 (by decide) ?_
        refine xj_loc C [2, 1, 0] (L1 := [(0, .ref (ad 41)), (1, .int (xi (v1 + r6))), (2, .int (xi (v2 + 1)))]) rfl ?_
        exact ih _ _ _ _ hM K
      clear hM
      have hM := hRr6
      obtain ⟨g7, hM⟩ := xck_some hM
      refine xj_if_eq C (tgt := 45) dX6_timeOutlets_38 (by decide) g7 (fun c8 => ?_) (fun c8 => ?_)
      · have hM := xit hM c8
        refine xj_iconst C dX6_timeOutlets_45 ?_
        obtain rfl := Option.some.inj hM
        refine xj_loc C [0, 2] (L1 := [(0, .ref (ad 41)), (2, .int (xi v2))]) rfl ?_
        exact Kr6
      · have hM := xif hM c8
        refine xj_iconst C dX6_timeOutlets_41 ?_
        refine xj_goto C (tgt := 46) dX6_timeOutlets_42 (by decide) ?_
        obtain rfl := Option.some.inj hM
        refine xj_loc C [0, 2] (L1 := [(0, .ref (ad 41)), (2, .int (xi v2))]) rfl ?_
        exact Kr6
set_option maxRecDepth 100000 in
set_option maxHeartbeats 4000000 in
theorem j_X6_timeOutlets_L68 {l : Launch} {D : va_G} {k : Nat → ClassId} {ad : Nat → Nat} {o : xO} {X : xX} (C : xC D k o X cX6_timeOutlets 4 RX6 wsX6_timeOutlets (some .boolean) rmX6_timeOutlets) (p2 : Int) : ∀ (n : Nat) (v1 : Int) (v3 : Int) (S : xS) (r : Int × xS), m_X6_timeOutlets_L68 p2 n v1 v3 S = some r → (xJ l D k o X 4 124 [(0, .ref (ad 41)), (1, .int (xi r.1)), (2, .int (xi p2))] [] (wX ad k r.2)) → xJ l D k o X 4 68 [(0, .ref (ad 41)), (1, .int (xi v1)), (2, .int (xi p2)), (3, .int (xi v3))] [] (wX ad k S) := by
  intro n
  induction n with
  | zero =>
    intro v1 v3 S r hM
    cases hM
  | succ n ih =>
    intro v1 v3 S r hM K
    unfold m_X6_timeOutlets_L68 at hM
    refine xj_iload_n C 3 dX6_timeOutlets_68 rfl rfl ?_
    refine xj_bipush C (n := 16) (by decide) dX6_timeOutlets_69 ?_
    obtain ⟨g14, hM⟩ := xck_some hM
    refine xj_icmp_ge C (tgt := 124) dX6_timeOutlets_71 (by decide) ⟨g14, (by decide)⟩ (fun c15 => ?_) (fun c15 => ?_)
    · have hM := xit hM c15
      obtain rfl := Option.some.inj hM
      refine xj_loc C [0, 1, 2] (L1 := [(0, .ref (ad 41)), (1, .int (xi v1)), (2, .int (xi p2))]) rfl ?_
      exact K
    · have hM := xif hM c15
      refine xj_aload_n C 0 dX6_timeOutlets_74 rfl rfl ?_
      refine xj_get C (fun _ h => List.mem_cons_of_mem _ (List.mem_append_left _ (List.mem_append_right _ h))) 41 (eX_41 ad k S) rfl 2 (by decide) (List.mem_of_getElem? (i := 1) rfl) (fun _ _ h => h) rfl dX6_timeOutlets_75 ?_
      refine xj_iload_n C 3 dX6_timeOutlets_78 rfl rfl ?_
      obtain ⟨g16, hM⟩ := xck_some hM
      refine xj_zald C 32 S 32 (eX_32 ad k S) (Nat.le_of_ble_eq_true rfl) g16 dX6_timeOutlets_79 ?_
      obtain ⟨r17, hRr17, hM⟩ := xbd hM
      have Kr17 : xJ l D k o X 4 118 [(0, .ref (ad 41)), (1, .int (xi r17.1)), (2, .int (xi p2)), (3, .int (xi v3))] [] (wX ad k r17.2) := by
        refine xj_iinc C 3 (L1 := [(3, .int (xi (v3 + 1))), (0, .ref (ad 41)), (1, .int (xi r17.1)), (2, .int (xi p2))]) dX6_timeOutlets_118 rfl (by decide) rfl ?_
        refine xj_goto C (tgt := 68) dX6_timeOutlets_121 (by decide) ?_
        refine xj_loc C [1, 2, 3, 0] (L1 := [(0, .ref (ad 41)), (1, .int (xi r17.1)), (2, .int (xi p2)), (3, .int (xi (v3 + 1)))]) rfl ?_
        exact ih _ _ _ _ hM K
      clear hM
      have hM := hRr17
      obtain ⟨g18, hM⟩ := xck_some hM
      refine xj_if_ne C (tgt := 118) dX6_timeOutlets_80 (by decide) g18 (fun c19 => ?_) (fun c19 => ?_)
      · have hM := xif hM c19
        obtain rfl := Option.some.inj hM
        exact Kr17
      · have hM := xit hM c19
        refine xj_aload_n C 0 dX6_timeOutlets_83 rfl rfl ?_
        refine xj_iload_n C 3 dX6_timeOutlets_84 rfl rfl ?_
        obtain ⟨r20, hRr20, hM⟩ := xbd hM
        refine xj_callV C [.int (xi v3)] [] 1 (c_X6_pinsAreKnown hRr20) gX6_timeOutlets_X6_pinsAreKnown rfl ⟨rfl, rfl⟩ hv_X6_pinsAreKnown ⟨Nat.le_of_ble_eq_true rfl, Nat.le_of_ble_eq_true rfl⟩ 41 (eX_41 ad k _) rfl rfl (Nat.le_of_ble_eq_true rfl) dX6_timeOutlets_85 ?_
        obtain ⟨g21, hM⟩ := xck_some hM
        refine xj_if_eq C (tgt := 118) dX6_timeOutlets_88 (by decide) g21 (fun c22 => ?_) (fun c22 => ?_)
        · have hM := xit hM c22
          obtain rfl := Option.some.inj hM
          exact Kr17
        · have hM := xif hM c22
          refine xj_aload_n C 0 dX6_timeOutlets_91 rfl rfl ?_
          refine xj_get C (fun _ h => List.mem_cons_of_mem _ (List.mem_append_left _ (List.mem_append_right _ h))) 41 (eX_41 ad k S) rfl 1 (by decide) (List.mem_of_getElem? (i := 3) rfl) (fun _ _ h => h) rfl dX6_timeOutlets_92 ?_
          refine xj_iload_n C 3 dX6_timeOutlets_95 rfl rfl ?_
          refine xj_iconst C dX6_timeOutlets_96 ?_
          refine xj_iconst C dX6_timeOutlets_97 ?_
          refine xj_aload_n C 0 dX6_timeOutlets_98 rfl rfl ?_
          refine xj_iload_n C 3 dX6_timeOutlets_99 rfl rfl ?_
          obtain ⟨r23, hRr23, hM⟩ := xbd hM
          refine xj_callV C [.int (xi v3)] [.int (xi 0), .int (xi 5), .int (xi v3), .ref (ad 31)] 1 (c_X6_latestPin hRr23) gX6_timeOutlets_X6_latestPin rfl ⟨rfl, rfl⟩ hv_X6_latestPin ⟨Nat.le_of_ble_eq_true rfl, Nat.le_of_ble_eq_true rfl⟩ 41 (eX_41 ad k _) rfl rfl (Nat.le_of_ble_eq_true rfl) dX6_timeOutlets_100 ?_
          obtain ⟨g24, hM⟩ := xck_some hM
          refine xj_mmax C ⟨(by decide), g24⟩ (List.mem_of_getElem? (i := 4) rfl) (List.mem_of_getElem? (i := 5) rfl) (List.mem_of_getElem? (i := 6) rfl) (List.mem_of_getElem? (i := 7) rfl) (Nat.le_of_ble_eq_true rfl) (Nat.le_of_ble_eq_true rfl) dX6_timeOutlets_103 ?_
          refine xj_iadd C dX6_timeOutlets_106 ?_
          refine xj_iast C 31 S 31 (eX_31 ad k S) (Nat.le_of_ble_eq_true rfl) g16 (sX_31 ad k S v3 (5 + (xb_max 0 r23))) dX6_timeOutlets_107 ?_
          refine xj_aload_n C 0 dX6_timeOutlets_108 rfl rfl ?_
          refine xj_get C (fun _ h => List.mem_cons_of_mem _ (List.mem_append_left _ (List.mem_append_right _ h))) 41 (eX_41 ad k (xup S 31 v3 (5 + (xb_max 0 r23)))) rfl 2 (by decide) (List.mem_of_getElem? (i := 1) rfl) (fun _ _ h => h) rfl dX6_timeOutlets_109 ?_
          refine xj_iload_n C 3 dX6_timeOutlets_112 rfl rfl ?_
          refine xj_iconst C dX6_timeOutlets_113 ?_
          obtain ⟨g25, hM⟩ := xck_some hM
          refine xj_zast C 32 (xup S 31 v3 (5 + (xb_max 0 r23))) 32 (eX_32 ad k (xup S 31 v3 (5 + (xb_max 0 r23)))) (Nat.le_of_ble_eq_true rfl) (Or.inr rfl) g25 (sX_32 ad k (xup S 31 v3 (5 + (xb_max 0 r23))) v3 1) dX6_timeOutlets_114 ?_
          refine xj_iinc C 1 (L1 := [(1, .int (xi (v1 + (-1)))), (0, .ref (ad 41)), (2, .int (xi p2)), (3, .int (xi v3))]) dX6_timeOutlets_115 rfl (by decide) rfl ?_
          obtain rfl := Option.some.inj hM
          refine xj_loc C [1, 0, 2, 3] (L1 := [(0, .ref (ad 41)), (1, .int (xi (v1 + (-1)))), (2, .int (xi p2)), (3, .int (xi v3))]) rfl ?_
          exact Kr17
set_option maxRecDepth 100000 in
set_option maxHeartbeats 4000000 in
theorem j_X6_timeOutlets_L56 {l : Launch} {D : va_G} {k : Nat → ClassId} {ad : Nat → Nat} {o : xO} {X : xX} (C : xC D k o X cX6_timeOutlets 4 RX6 wsX6_timeOutlets (some .boolean) rmX6_timeOutlets) : ∀ (n : Nat) (v1 : Int) (v2 : Int) (S : xS) (r : Int × xS), m_X6_timeOutlets_L56 n v1 v2 S = some r → (xJ l D k o X 4 130 [(1, .int (xi r.1))] [] (wX ad k r.2)) → xJ l D k o X 4 56 [(0, .ref (ad 41)), (1, .int (xi v1)), (2, .int (xi v2))] [] (wX ad k S) := by
  intro n
  induction n with
  | zero =>
    intro v1 v2 S r hM
    cases hM
  | succ n ih =>
    intro v1 v2 S r hM K
    unfold m_X6_timeOutlets_L56 at hM
    refine xj_iload_n C 2 dX6_timeOutlets_56 rfl rfl ?_
    refine xj_bipush C (n := 16) (by decide) dX6_timeOutlets_57 ?_
    obtain ⟨g10, hM⟩ := xck_some hM
    refine xj_icmp_ge C (tgt := 130) dX6_timeOutlets_59 (by decide) ⟨g10, (by decide)⟩ (fun c11 => ?_) (fun c11 => ?_)
    · have hM := xit hM c11
      obtain rfl := Option.some.inj hM
      refine xj_loc C [1] (L1 := [(1, .int (xi v1))]) rfl ?_
      exact K
    · have hM := xif hM c11
      refine xj_iload_n C 1 dX6_timeOutlets_62 rfl rfl ?_
      obtain ⟨g12, hM⟩ := xck_some hM
      refine xj_if_le C (tgt := 130) dX6_timeOutlets_63 (by decide) g12 (fun c13 => ?_) (fun c13 => ?_)
      · have hM := xit hM c13
        obtain rfl := Option.some.inj hM
        refine xj_loc C [1] (L1 := [(1, .int (xi v1))]) rfl ?_
        exact K
      · have hM := xif hM c13
        refine xj_iconst C dX6_timeOutlets_66 ?_
        refine xj_istore_n C (L1 := [(3, .int (xi 0)), (0, .ref (ad 41)), (1, .int (xi v1)), (2, .int (xi v2))]) dX6_timeOutlets_67 rfl (by decide) rfl ?_
        obtain ⟨r26, hLr26, hM⟩ := xbd hM
        refine xj_loc C [1, 2, 3, 0] (L1 := [(0, .ref (ad 41)), (1, .int (xi v1)), (2, .int (xi v2)), (3, .int (xi 0))]) rfl ?_
        refine j_X6_timeOutlets_L68 C v2 _ _ _ _ _ hLr26 ?_
        refine xj_iinc C 2 (L1 := [(2, .int (xi (v2 + 1))), (0, .ref (ad 41)), (1, .int (xi r26.1))]) dX6_timeOutlets_124 rfl (by decide) rfl ?_
        refine xj_goto C (tgt := 56) dX6_timeOutlets_127 (by decide) ?_
        refine xj_loc C [1, 2, 0] (L1 := [(0, .ref (ad 41)), (1, .int (xi r26.1)), (2, .int (xi (v2 + 1)))]) rfl ?_
        exact ih _ _ _ _ hM K
set_option maxRecDepth 100000 in
set_option maxHeartbeats 4000000 in
theorem c_X6_timeOutlets {l : Launch} {D : va_G} {k : Nat → ClassId} {ad : Nat → Nat} {S : xS} {res : Int × xS} (hM : m_X6_timeOutlets S = some res) : xM l yX6_timeOutlets wsX6_timeOutlets rmX6_timeOutlets D k [.ref (ad 41)] (wX ad k S) (some (.int (xi res.1))) (wX ad k res.2) := by
  refine xM_of (ret := (some .boolean)) (by decide) rfl (Nat.le_of_ble_eq_true rfl) (fun X C => ?_)
  have C : xC D k (xo X D k (some (.int (xi res.1))) (wX ad k res.2)) X cX6_timeOutlets 4 RX6 wsX6_timeOutlets (some .boolean) rmX6_timeOutlets := C
  show xJ l D k (xo X D k (some (.int (xi res.1))) (wX ad k res.2)) X 4 0 [(0, .ref (ad 41))] [] (wX ad k S)
  unfold m_X6_timeOutlets at hM
  refine xj_iconst C dX6_timeOutlets_0 ?_
  refine xj_istore_n C (L1 := [(1, .int (xi 0)), (0, .ref (ad 41))]) dX6_timeOutlets_1 rfl (by decide) rfl ?_
  refine xj_iconst C dX6_timeOutlets_2 ?_
  refine xj_istore_n C (L1 := [(2, .int (xi 0)), (1, .int (xi 0)), (0, .ref (ad 41))]) dX6_timeOutlets_3 rfl (by decide) rfl ?_
  obtain ⟨r9, hLr9, hM⟩ := xbd hM
  refine xj_loc C [2, 1, 0] (L1 := [(0, .ref (ad 41)), (1, .int (xi 0)), (2, .int (xi 0))]) rfl ?_
  refine j_X6_timeOutlets_L4 C _ _ _ _ _ hLr9 ?_
  refine xj_iconst C dX6_timeOutlets_54 ?_
  refine xj_istore_n C (L1 := [(2, .int (xi 0)), (0, .ref (ad 41)), (1, .int (xi r9.1))]) dX6_timeOutlets_55 rfl (by decide) rfl ?_
  obtain ⟨r27, hLr27, hM⟩ := xbd hM
  refine xj_loc C [1, 2, 0] (L1 := [(0, .ref (ad 41)), (1, .int (xi r9.1)), (2, .int (xi 0))]) rfl ?_
  refine j_X6_timeOutlets_L56 C _ _ _ _ _ hLr27 ?_
  refine xj_iload_n C 0 dX6_timeOutlets_130 rfl rfl ?_
  obtain ⟨g28, hM⟩ := xck_some hM
  refine xj_if_ne C (tgt := 138) dX6_timeOutlets_131 (by decide) g28 (fun c29 => ?_) (fun c29 => ?_)
  · have hM := xif hM c29
    refine xj_iconst C dX6_timeOutlets_138 ?_
    obtain rfl := Option.some.inj hM
    exact xj_zret (Or.inl rfl) C rfl dX6_timeOutlets_139
  · have hM := xit hM c29
    refine xj_iconst C dX6_timeOutlets_134 ?_
    refine xj_goto C (tgt := 139) dX6_timeOutlets_135 (by decide) ?_
    obtain rfl := Option.some.inj hM
    exact xj_zret (Or.inr rfl) C rfl dX6_timeOutlets_139
def rmX6_longestWay : Room := { frames := 4, cells := 0, slots := 0, locals := 90 }
theorem hv_X6_longestWay : yX6_longestWay.cls = RX6 ∧ yX6_longestWay.cls ≠ "java/lang/invoke/MethodHandle" ∧ yX6_longestWay.cls ≠ "java/lang/invoke/VarHandle" ∧ (parseMethodDescriptor yX6_longestWay.desc).map (fun d => d.parameters.length) = some 0 := by decide +kernel
def m_X6_longestWay_L15 (S : xS) : Nat → Int → Int → Option (Int)
  | 0, _, _ => none
  | n + 1, v1, v2 => xck (xr v2) (if 16 ≤ v2 then some v1 else (m_X6_latestPin v2 S).bind (fun r6 => (m_X5_hasRegister v2 S).bind (fun r7 => (xck (xr r7) (if r7 = 0 then some v1 else xck (xr r6) (if r6 = (-1) then some v1 else xck (xr v1 ∧ xr ((r6 + 5) + 2)) (some (xb_max v1 ((r6 + 5) + 2)))))).bind (fun r8 => m_X6_longestWay_L15 S n r8 (v2 + 1)))))
def m_X6_longestWay_L61 (S : xS) : Nat → Int → Int → Option (Int)
  | 0, _, _ => none
  | n + 1, v1, v2 => xck (xr v2) (if 4 ≤ v2 then some v1 else (m_X6_arrival (48 + v2) S).bind (fun r17 => xck (xr v1 ∧ xr r17) (m_X6_longestWay_L61 S n (xb_max v1 r17) (v2 + 1))))
def m_X6_longestWay (S : xS) : Option (UInt64 × xS) := (m_X6_timeOutlets S).bind (fun r1 => xck (xr r1.1) (if r1.1 = 0 then some ((13830554455654793216 : UInt64), r1.2) else (m_X6_longestWay_L15 r1.2 2000 0 0).bind (fun r14 => (m_X6_longestWay_L61 r1.2 2000 r14 0).bind (fun r19 => xck ((FP.ddiv (FP.i2d (xi r19)) (4620693217682128896 : UInt64)) &&& 9223372036854775807 ≤ (9218868437227405312 : UInt64)) (some ((FP.ddiv (FP.i2d (xi r19)) (4620693217682128896 : UInt64)), r1.2))))))
set_option maxRecDepth 100000 in
set_option maxHeartbeats 4000000 in
theorem j_X6_longestWay_L15 {l : Launch} {D : va_G} {k : Nat → ClassId} {ad : Nat → Nat} {o : xO} {X : xX} (C : xC D k o X cX6_longestWay 4 RX6 wsX6_longestWay (some .double) rmX6_longestWay) (S : xS) : ∀ (n : Nat) (v1 : Int) (v2 : Int) (r : Int), m_X6_longestWay_L15 S n v1 v2 = some r → (xJ l D k o X 4 59 [(0, .ref (ad 41)), (1, .int (xi r))] [] (wX ad k S)) → xJ l D k o X 4 15 [(0, .ref (ad 41)), (1, .int (xi v1)), (2, .int (xi v2))] [] (wX ad k S) := by
  intro n
  induction n with
  | zero =>
    intro v1 v2 r hM
    cases hM
  | succ n ih =>
    intro v1 v2 r hM K
    unfold m_X6_longestWay_L15 at hM
    refine xj_iload_n C 2 dX6_longestWay_15 rfl rfl ?_
    refine xj_bipush C (n := 16) (by decide) dX6_longestWay_16 ?_
    obtain ⟨g4, hM⟩ := xck_some hM
    refine xj_icmp_ge C (tgt := 59) dX6_longestWay_18 (by decide) ⟨g4, (by decide)⟩ (fun c5 => ?_) (fun c5 => ?_)
    · have hM := xit hM c5
      obtain rfl := Option.some.inj hM
      refine xj_loc C [0, 1] (L1 := [(0, .ref (ad 41)), (1, .int (xi v1))]) rfl ?_
      exact K
    · have hM := xif hM c5
      refine xj_aload_n C 0 dX6_longestWay_21 rfl rfl ?_
      refine xj_iload_n C 2 dX6_longestWay_22 rfl rfl ?_
      obtain ⟨r6, hRr6, hM⟩ := xbd hM
      refine xj_callV C [.int (xi v2)] [] 1 (c_X6_latestPin hRr6) gX6_longestWay_X6_latestPin rfl ⟨rfl, rfl⟩ hv_X6_latestPin ⟨Nat.le_of_ble_eq_true rfl, Nat.le_of_ble_eq_true rfl⟩ 41 (eX_41 ad k _) rfl rfl (Nat.le_of_ble_eq_true rfl) dX6_longestWay_23 ?_
      refine xj_istore_n C (L1 := [(3, .int (xi r6)), (0, .ref (ad 41)), (1, .int (xi v1)), (2, .int (xi v2))]) dX6_longestWay_26 rfl (by decide) rfl ?_
      refine xj_aload_n C 1 dX6_longestWay_27 rfl rfl ?_
      refine xj_get C (fun _ h => List.mem_cons_of_mem _ (List.mem_append_left _ (List.mem_append_right _ h))) 41 (eX_41 ad k S) rfl 0 (by decide) (List.mem_of_getElem? (i := 2) rfl) (fun _ _ h => h) rfl dX6_longestWay_28 ?_
      refine xj_iload_n C 3 dX6_longestWay_31 rfl rfl ?_
      obtain ⟨r7, hRr7, hM⟩ := xbd hM
      refine xj_callV C [.int (xi v2)] [] 1 (c_X5_hasRegister hRr7) gX6_longestWay_X5_hasRegister rfl ⟨rfl, rfl⟩ hv_X5_hasRegister ⟨Nat.le_of_ble_eq_true rfl, Nat.le_of_ble_eq_true rfl⟩ 40 (eX_40 ad k _) rfl rfl (Nat.le_of_ble_eq_true rfl) dX6_longestWay_32 ?_
      obtain ⟨r8, hRr8, hM⟩ := xbd hM
      have Kr8 : xJ l D k o X 4 53 [(0, .ref (ad 41)), (1, .int (xi r8)), (2, .int (xi v2))] [] (wX ad k S) := by
        refine xj_iinc C 2 (L1 := [(2, .int (xi (v2 + 1))), (0, .ref (ad 41)), (1, .int (xi r8))]) dX6_longestWay_53 rfl (by decide) rfl ?_
        refine xj_goto C (tgt := 15) dX6_longestWay_56 (by decide) ?_
        refine xj_loc C [1, 2, 0] (L1 := [(0, .ref (ad 41)), (1, .int (xi r8)), (2, .int (xi (v2 + 1)))]) rfl ?_
        exact ih _ _ _ hM K
      clear hM
      have hM := hRr8
      obtain ⟨g9, hM⟩ := xck_some hM
      refine xj_if_eq C (tgt := 53) dX6_longestWay_35 (by decide) g9 (fun c10 => ?_) (fun c10 => ?_)
      · have hM := xit hM c10
        obtain rfl := Option.some.inj hM
        refine xj_loc C [1, 2, 3] (L1 := [(0, .ref (ad 41)), (1, .int (xi v1)), (2, .int (xi v2))]) rfl ?_
        exact Kr8
      · have hM := xif hM c10
        refine xj_iload_n C 0 dX6_longestWay_38 rfl rfl ?_
        refine xj_iconst C dX6_longestWay_39 ?_
        obtain ⟨g11, hM⟩ := xck_some hM
        refine xj_icmp_eq C (tgt := 53) dX6_longestWay_40 (by decide) ⟨g11, (by decide)⟩ (fun c12 => ?_) (fun c12 => ?_)
        · have hM := xit hM c12
          obtain rfl := Option.some.inj hM
          refine xj_loc C [1, 2, 3] (L1 := [(0, .ref (ad 41)), (1, .int (xi v1)), (2, .int (xi v2))]) rfl ?_
          exact Kr8
        · have hM := xif hM c12
          refine xj_iload_n C 2 dX6_longestWay_43 rfl rfl ?_
          refine xj_iload_n C 0 dX6_longestWay_44 rfl rfl ?_
          refine xj_iconst C dX6_longestWay_45 ?_
          refine xj_iadd C dX6_longestWay_46 ?_
          refine xj_iconst C dX6_longestWay_47 ?_
          refine xj_iadd C dX6_longestWay_48 ?_
          obtain ⟨g13, hM⟩ := xck_some hM
          refine xj_mmax C ⟨g13.1, g13.2⟩ (List.mem_of_getElem? (i := 3) rfl) (List.mem_of_getElem? (i := 4) rfl) (List.mem_of_getElem? (i := 5) rfl) (List.mem_of_getElem? (i := 6) rfl) (Nat.le_of_ble_eq_true rfl) (Nat.le_of_ble_eq_true rfl) dX6_longestWay_49 ?_
          refine xj_istore_n C (L1 := [(1, .int (xi (xb_max v1 ((r6 + 5) + 2)))), (3, .int (xi r6)), (0, .ref (ad 41)), (2, .int (xi v2))]) dX6_longestWay_52 rfl (by decide) rfl ?_
          obtain rfl := Option.some.inj hM
          refine xj_loc C [2, 0, 3] (L1 := [(0, .ref (ad 41)), (1, .int (xi (xb_max v1 ((r6 + 5) + 2)))), (2, .int (xi v2))]) rfl ?_
          exact Kr8
set_option maxRecDepth 100000 in
set_option maxHeartbeats 4000000 in
theorem j_X6_longestWay_L61 {l : Launch} {D : va_G} {k : Nat → ClassId} {ad : Nat → Nat} {o : xO} {X : xX} (C : xC D k o X cX6_longestWay 4 RX6 wsX6_longestWay (some .double) rmX6_longestWay) (S : xS) : ∀ (n : Nat) (v1 : Int) (v2 : Int) (r : Int), m_X6_longestWay_L61 S n v1 v2 = some r → (xJ l D k o X 4 85 [(1, .int (xi r))] [] (wX ad k S)) → xJ l D k o X 4 61 [(0, .ref (ad 41)), (1, .int (xi v1)), (2, .int (xi v2))] [] (wX ad k S) := by
  intro n
  induction n with
  | zero =>
    intro v1 v2 r hM
    cases hM
  | succ n ih =>
    intro v1 v2 r hM K
    unfold m_X6_longestWay_L61 at hM
    refine xj_iload_n C 2 dX6_longestWay_61 rfl rfl ?_
    refine xj_iconst C dX6_longestWay_62 ?_
    obtain ⟨g15, hM⟩ := xck_some hM
    refine xj_icmp_ge C (tgt := 85) dX6_longestWay_63 (by decide) ⟨g15, (by decide)⟩ (fun c16 => ?_) (fun c16 => ?_)
    · have hM := xit hM c16
      obtain rfl := Option.some.inj hM
      refine xj_loc C [1] (L1 := [(1, .int (xi v1))]) rfl ?_
      exact K
    · have hM := xif hM c16
      refine xj_iload_n C 1 dX6_longestWay_66 rfl rfl ?_
      refine xj_aload_n C 0 dX6_longestWay_67 rfl rfl ?_
      refine xj_bipush C (n := 48) (by decide) dX6_longestWay_68 ?_
      refine xj_iload_n C 2 dX6_longestWay_70 rfl rfl ?_
      refine xj_iadd C dX6_longestWay_71 ?_
      obtain ⟨r17, hRr17, hM⟩ := xbd hM
      refine xj_callV C [.int (xi (48 + v2))] [.int (xi v1)] 1 (c_X6_arrival hRr17) gX6_longestWay_X6_arrival rfl ⟨rfl, rfl⟩ hv_X6_arrival ⟨Nat.le_of_ble_eq_true rfl, Nat.le_of_ble_eq_true rfl⟩ 41 (eX_41 ad k _) rfl rfl (Nat.le_of_ble_eq_true rfl) dX6_longestWay_72 ?_
      obtain ⟨g18, hM⟩ := xck_some hM
      refine xj_mmax C ⟨g18.1, g18.2⟩ (List.mem_of_getElem? (i := 3) rfl) (List.mem_of_getElem? (i := 4) rfl) (List.mem_of_getElem? (i := 5) rfl) (List.mem_of_getElem? (i := 6) rfl) (Nat.le_of_ble_eq_true rfl) (Nat.le_of_ble_eq_true rfl) dX6_longestWay_75 ?_
      refine xj_istore_n C (L1 := [(1, .int (xi (xb_max v1 r17))), (0, .ref (ad 41)), (2, .int (xi v2))]) dX6_longestWay_78 rfl (by decide) rfl ?_
      refine xj_iinc C 2 (L1 := [(2, .int (xi (v2 + 1))), (1, .int (xi (xb_max v1 r17))), (0, .ref (ad 41))]) dX6_longestWay_79 rfl (by decide) rfl ?_
      refine xj_goto C (tgt := 61) dX6_longestWay_82 (by decide) ?_
      refine xj_loc C [2, 1, 0] (L1 := [(0, .ref (ad 41)), (1, .int (xi (xb_max v1 r17))), (2, .int (xi (v2 + 1)))]) rfl ?_
      exact ih _ _ _ hM K
set_option maxRecDepth 100000 in
set_option maxHeartbeats 4000000 in
theorem c_X6_longestWay {l : Launch} {D : va_G} {k : Nat → ClassId} {ad : Nat → Nat} {S : xS} {res : UInt64 × xS} (hM : m_X6_longestWay S = some res) : xM l yX6_longestWay wsX6_longestWay rmX6_longestWay D k [.ref (ad 41)] (wX ad k S) (some (.double res.1)) (wX ad k res.2) := by
  refine xM_of (ret := (some .double)) (by decide) rfl (Nat.le_of_ble_eq_true rfl) (fun X C => ?_)
  have C : xC D k (xo X D k (some (.double res.1)) (wX ad k res.2)) X cX6_longestWay 4 RX6 wsX6_longestWay (some .double) rmX6_longestWay := C
  show xJ l D k (xo X D k (some (.double res.1)) (wX ad k res.2)) X 4 0 [(0, .ref (ad 41))] [] (wX ad k S)
  unfold m_X6_longestWay at hM
  refine xj_aload_n C 0 dX6_longestWay_0 rfl rfl ?_
  obtain ⟨r1, hRr1, hM⟩ := xbd hM
  refine xj_callV C [] [] 0 (c_X6_timeOutlets hRr1) gX6_longestWay_X6_timeOutlets rfl ⟨rfl, rfl⟩ hv_X6_timeOutlets ⟨Nat.le_of_ble_eq_true rfl, Nat.le_of_ble_eq_true rfl⟩ 41 (eX_41 ad k _) rfl rfl (Nat.le_of_ble_eq_true rfl) dX6_longestWay_1 ?_
  obtain ⟨g2, hM⟩ := xck_some hM
  refine xj_if_ne C (tgt := 11) dX6_longestWay_4 (by decide) g2 (fun c3 => ?_) (fun c3 => ?_)
  · have hM := xif hM c3
    refine xj_iconst C dX6_longestWay_11 ?_
    refine xj_istore_n C (L1 := [(1, .int (xi 0)), (0, .ref (ad 41))]) dX6_longestWay_12 rfl (by decide) rfl ?_
    refine xj_iconst C dX6_longestWay_13 ?_
    refine xj_istore_n C (L1 := [(2, .int (xi 0)), (1, .int (xi 0)), (0, .ref (ad 41))]) dX6_longestWay_14 rfl (by decide) rfl ?_
    obtain ⟨r14, hLr14, hM⟩ := xbd hM
    refine xj_loc C [2, 1, 0] (L1 := [(0, .ref (ad 41)), (1, .int (xi 0)), (2, .int (xi 0))]) rfl ?_
    refine j_X6_longestWay_L15 C r1.2 _ _ _ _ hLr14 ?_
    refine xj_iconst C dX6_longestWay_59 ?_
    refine xj_istore_n C (L1 := [(2, .int (xi 0)), (0, .ref (ad 41)), (1, .int (xi r14))]) dX6_longestWay_60 rfl (by decide) rfl ?_
    obtain ⟨r19, hLr19, hM⟩ := xbd hM
    refine xj_loc C [1, 2, 0] (L1 := [(0, .ref (ad 41)), (1, .int (xi r14)), (2, .int (xi 0))]) rfl ?_
    refine j_X6_longestWay_L61 C r1.2 _ _ _ _ hLr19 ?_
    refine xj_iload_n C 0 dX6_longestWay_85 rfl rfl ?_
    refine xj_i2d C dX6_longestWay_86 ?_
    refine xj_ldc2d C (List.mem_of_getElem? (i := 7) rfl) dX6_longestWay_87 ?_
    obtain ⟨g20, hM⟩ := xck_some hM
    refine xj_ddiv C g20 dX6_longestWay_90 ?_
    obtain rfl := Option.some.inj hM
    exact xj_dret C rfl dX6_longestWay_91
  · have hM := xit hM c3
    refine xj_ldc2d C (List.mem_of_getElem? (i := 1) rfl) dX6_longestWay_7 ?_
    obtain rfl := Option.some.inj hM
    exact xj_dret C rfl dX6_longestWay_10
