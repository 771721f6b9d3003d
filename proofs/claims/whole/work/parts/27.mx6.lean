/-! mirrors and contracts (by program: wip/whole/gen.py, mkparts.py) -/
def rmX6_arrival : Room := { frames := 1, cells := 0, slots := 0, locals := 21 }
theorem hv_X6_arrival : yX6_arrival.cls = RX6 ∧ yX6_arrival.cls ≠ "java/lang/invoke/MethodHandle" ∧ yX6_arrival.cls ≠ "java/lang/invoke/VarHandle" ∧ (parseMethodDescriptor yX6_arrival.desc).map (fun d => d.parameters.length) = some 1 := by decide +kernel
def m_X6_arrival (p1 : Int) (S : xS) : Option (UInt64) := (m_X5_originOf p1 S).bind (fun r1 => xck (xr r1) (if 0 ≤ r1 then ((if 16 ≤ r1 then some FP.dconst0 else xck (0 ≤ r1 ∧ r1 < 16) (some (UInt64.ofNat (S 31 r1).toNat)))).bind (fun r4 => (m_X5_lengthOf p1 S).bind (fun r7 => xck ((FP.dmul (4600427019358961664 : UInt64) (FP.i2d (xi r7))) &&& 9223372036854775807 ≤ (9218868437227405312 : UInt64)) (xck ((FP.dadd r4 (FP.dmul (4600427019358961664 : UInt64) (FP.i2d (xi r7)))) &&& 9223372036854775807 ≤ (9218868437227405312 : UInt64)) (some (FP.dadd r4 (FP.dmul (4600427019358961664 : UInt64) (FP.i2d (xi r7)))))))) else some (13830554455654793216 : UInt64)))
set_option maxRecDepth 100000 in
set_option maxHeartbeats 4000000 in
theorem c_X6_arrival {l : Launch} {D : va_G} {k : Nat → ClassId} {ad : Nat → Nat} {S : xS} {p1 : Int} {res : UInt64} (hM : m_X6_arrival p1 S = some res) : xM l yX6_arrival wsX6_arrival rmX6_arrival D k [.ref (ad 41), .int (xi p1)] (wX ad k S) (some (.double res)) (wX ad k S) := by
  refine xM_of (ret := (some .double)) (by decide) rfl (Nat.le_of_ble_eq_true rfl) (fun X C => ?_)
  have C : xC D k (xo X D k (some (.double res)) (wX ad k S)) X cX6_arrival 5 RX6 wsX6_arrival (some .double) rmX6_arrival := C
  show xJ l D k (xo X D k (some (.double res)) (wX ad k S)) X 5 0 [(0, .ref (ad 41)), (1, .int (xi p1))] [] (wX ad k S)
  unfold m_X6_arrival at hM
  refine xj_aload_n C 0 dX6_arrival_0 rfl rfl ?_
  refine xj_get C (fun _ h => List.mem_cons_of_mem _ (List.mem_append_left _ (List.mem_append_right _ h))) 41 (eX_41 ad k S) rfl 0 (by decide) (List.mem_of_getElem? (i := 1) rfl) (fun _ _ h => h) rfl dX6_arrival_1 ?_
  refine xj_iload_n C 1 dX6_arrival_4 rfl rfl ?_
  obtain ⟨r1, hRr1, hM⟩ := xbd hM
  refine xj_callV C [.int (xi p1)] [] 1 (c_X5_originOf hRr1) gX6_arrival_X5_originOf rfl ⟨rfl, rfl⟩ hv_X5_originOf ⟨Nat.le_of_ble_eq_true rfl, Nat.le_of_ble_eq_true rfl⟩ 40 (eX_40 ad k _) rfl rfl (Nat.le_of_ble_eq_true rfl) dX6_arrival_5 ?_
  refine xj_istore_n C (L1 := [(2, .int (xi r1)), (0, .ref (ad 41)), (1, .int (xi p1))]) dX6_arrival_8 rfl (by decide) rfl ?_
  refine xj_iload_n C 0 dX6_arrival_9 rfl rfl ?_
  obtain ⟨g2, hM⟩ := xck_some hM
  refine xj_if_ge C (tgt := 17) dX6_arrival_10 (by decide) g2 (fun c3 => ?_) (fun c3 => ?_)
  · have hM := xit hM c3
    refine xj_iload_n C 0 dX6_arrival_17 rfl rfl ?_
    refine xj_bipush C (n := 16) (by decide) dX6_arrival_18 ?_
    obtain ⟨r4, hRr4, hM⟩ := xbd hM
    have Kr4 : xJ l D k (xo X D k (some (.double res)) (wX ad k S)) X 5 33 [(0, .ref (ad 41)), (1, .int (xi p1))] [.double r4] (wX ad k S) := by
      refine xj_dstore_n C (L1 := [(3, .double r4), (0, .ref (ad 41)), (1, .int (xi p1))]) dX6_arrival_33 rfl (by decide) rfl ?_
      refine xj_dload_n C 0 dX6_arrival_34 rfl rfl ?_
      refine xj_ldc2d C (List.mem_of_getElem? (i := 4) rfl) dX6_arrival_35 ?_
      refine xj_aload_n C 1 dX6_arrival_38 rfl rfl ?_
      refine xj_get C (fun _ h => List.mem_cons_of_mem _ (List.mem_append_left _ (List.mem_append_right _ h))) 41 (eX_41 ad k S) rfl 0 (by decide) (List.mem_of_getElem? (i := 1) rfl) (fun _ _ h => h) rfl dX6_arrival_39 ?_
      refine xj_iload_n C 2 dX6_arrival_42 rfl rfl ?_
      obtain ⟨r7, hRr7, hM⟩ := xbd hM
      refine xj_callV C [.int (xi p1)] [.double (4600427019358961664 : UInt64), .double r4] 1 (c_X5_lengthOf hRr7) gX6_arrival_X5_lengthOf rfl ⟨rfl, rfl⟩ hv_X5_lengthOf ⟨Nat.le_of_ble_eq_true rfl, Nat.le_of_ble_eq_true rfl⟩ 40 (eX_40 ad k _) rfl rfl (Nat.le_of_ble_eq_true rfl) dX6_arrival_43 ?_
      refine xj_i2d C dX6_arrival_46 ?_
      obtain ⟨g8, hM⟩ := xck_some hM
      refine xj_dmul C g8 dX6_arrival_47 ?_
      obtain ⟨g9, hM⟩ := xck_some hM
      refine xj_dadd C g9 dX6_arrival_48 ?_
      obtain rfl := Option.some.inj hM
      exact xj_dret C rfl dX6_arrival_49
    clear hM
    have hM := hRr4
    refine xj_icmp_ge C (tgt := 32) dX6_arrival_20 (by decide) ⟨g2, (by decide)⟩ (fun c5 => ?_) (fun c5 => ?_)
    · have hM := xit hM c5
      refine xj_dconst0 C dX6_arrival_32 ?_
      obtain rfl := Option.some.inj hM
      refine xj_loc C [1, 2] (L1 := [(0, .ref (ad 41)), (1, .int (xi p1))]) rfl ?_
      exact Kr4
    · have hM := xif hM c5
      refine xj_aload_n C 1 dX6_arrival_23 rfl rfl ?_
      refine xj_get C (fun _ h => List.mem_cons_of_mem _ (List.mem_append_left _ (List.mem_append_right _ h))) 41 (eX_41 ad k S) rfl 1 (by decide) (List.mem_of_getElem? (i := 3) rfl) (fun _ _ h => h) rfl dX6_arrival_24 ?_
      refine xj_iload_n C 0 dX6_arrival_27 rfl rfl ?_
      obtain ⟨g6, hM⟩ := xck_some hM
      refine xj_dald C 31 S 31 (eX_31 ad k S) (Nat.le_of_ble_eq_true rfl) g6 dX6_arrival_28 ?_
      refine xj_goto C (tgt := 33) dX6_arrival_29 (by decide) ?_
      obtain rfl := Option.some.inj hM
      refine xj_loc C [1, 2] (L1 := [(0, .ref (ad 41)), (1, .int (xi p1))]) rfl ?_
      exact Kr4
  · have hM := xif hM c3
    refine xj_ldc2d C (List.mem_of_getElem? (i := 2) rfl) dX6_arrival_13 ?_
    obtain rfl := Option.some.inj hM
    exact xj_dret C rfl dX6_arrival_16
def rmX6_later : Room := { frames := 0, cells := 0, slots := 0, locals := 0 }
theorem hv_X6_later : yX6_later.cls ≠ "java/lang/invoke/MethodHandle" ∧ yX6_later.cls ≠ "java/lang/invoke/VarHandle" ∧ (parseMethodDescriptor yX6_later.desc).map (fun d => d.parameters.length) = some 2 := by decide +kernel
def m_X6_later (p0 : UInt64) (p2 : UInt64) : Option (UInt64) := (if (xb_dcmp .l p0 p2) < 0 then some p2 else some p0)
set_option maxRecDepth 100000 in
set_option maxHeartbeats 4000000 in
theorem c_X6_later {l : Launch} {D : va_G} {k : Nat → ClassId} {w : va_W} {p0 : UInt64} {p2 : UInt64} {res : UInt64} (hM : m_X6_later p0 p2 = some res) : xM l yX6_later wsX6_later rmX6_later D k [.double p0, .double p2] w (some (.double res)) w := by
  refine xM_of (ret := (some .double)) (by decide) rfl (Nat.le_of_ble_eq_true rfl) (fun X C => ?_)
  have C : xC D k (xo X D k (some (.double res)) w) X cX6_later 4 RX6 wsX6_later (some .double) rmX6_later := C
  show xJ l D k (xo X D k (some (.double res)) w) X 4 0 [(0, .double p0), (2, .double p2)] [] w
  unfold m_X6_later at hM
  refine xj_dload_n C 0 dX6_later_0 rfl rfl ?_
  refine xj_dload_n C 1 dX6_later_1 rfl rfl ?_
  refine xj_dcmp C dX6_later_2 ?_
  refine xj_if_lt C (tgt := 10) dX6_later_3 (by decide) (xr_dcmp _ _ _) (fun c1 => ?_) (fun c1 => ?_)
  · have hM := xit hM c1
    refine xj_dload_n C 1 dX6_later_10 rfl rfl ?_
    obtain rfl := Option.some.inj hM
    exact xj_dret C rfl dX6_later_11
  · have hM := xif hM c1
    refine xj_dload_n C 0 dX6_later_6 rfl rfl ?_
    refine xj_goto C (tgt := 11) dX6_later_7 (by decide) ?_
    obtain rfl := Option.some.inj hM
    exact xj_dret C rfl dX6_later_11
def rmX6_latestPin : Room := { frames := 2, cells := 0, slots := 0, locals := 45 }
theorem hv_X6_latestPin : yX6_latestPin.cls = RX6 ∧ yX6_latestPin.cls ≠ "java/lang/invoke/MethodHandle" ∧ yX6_latestPin.cls ≠ "java/lang/invoke/VarHandle" ∧ (parseMethodDescriptor yX6_latestPin.desc).map (fun d => d.parameters.length) = some 1 := by decide +kernel
def m_X6_latestPin_L7 (p1 : Int) (S : xS) : Nat → UInt64 → Int → Option (UInt64)
  | 0, _, _ => none
  | n + 1, v2, v4 => xck (xr v4) (if 3 ≤ v4 then some v2 else (m_X6_arrival ((p1 * 3) + v4) S).bind (fun r3 => (m_X6_later v2 r3).bind (fun r4 => m_X6_latestPin_L7 p1 S n r4 (v4 + 1))))
def m_X6_latestPin (p1 : Int) (S : xS) : Option (UInt64) := (m_X6_latestPin_L7 p1 S 2000 (13830554455654793216 : UInt64) 0).bind (fun r5 => some r5)
set_option maxRecDepth 100000 in
set_option maxHeartbeats 4000000 in
theorem j_X6_latestPin_L7 {l : Launch} {D : va_G} {k : Nat → ClassId} {ad : Nat → Nat} {o : xO} {X : xX} (C : xC D k o X cX6_latestPin 5 RX6 wsX6_latestPin (some .double) rmX6_latestPin) (p1 : Int) (S : xS) : ∀ (n : Nat) (v2 : UInt64) (v4 : Int) (r : UInt64), m_X6_latestPin_L7 p1 S n v2 v4 = some r → (xJ l D k o X 5 34 [(2, .double r)] [] (wX ad k S)) → xJ l D k o X 5 7 [(0, .ref (ad 41)), (1, .int (xi p1)), (2, .double v2), (4, .int (xi v4))] [] (wX ad k S) := by
  intro n
  induction n with
  | zero =>
    intro v2 v4 r hM
    cases hM
  | succ n ih =>
    intro v2 v4 r hM K
    unfold m_X6_latestPin_L7 at hM
    refine xj_iload C 3 dX6_latestPin_7 rfl ?_
    refine xj_iconst C dX6_latestPin_9 ?_
    obtain ⟨g1, hM⟩ := xck_some hM
    refine xj_icmp_ge C (tgt := 34) dX6_latestPin_10 (by decide) ⟨g1, (by decide)⟩ (fun c2 => ?_) (fun c2 => ?_)
    · have hM := xit hM c2
      obtain rfl := Option.some.inj hM
      refine xj_loc C [2] (L1 := [(2, .double v2)]) rfl ?_
      exact K
    · have hM := xif hM c2
      refine xj_dload_n C 2 dX6_latestPin_13 rfl rfl ?_
      refine xj_aload_n C 0 dX6_latestPin_14 rfl rfl ?_
      refine xj_iload_n C 1 dX6_latestPin_15 rfl rfl ?_
      refine xj_iconst C dX6_latestPin_16 ?_
      refine xj_imul C dX6_latestPin_17 ?_
      refine xj_iload C 3 dX6_latestPin_18 rfl ?_
      refine xj_iadd C dX6_latestPin_20 ?_
      obtain ⟨r3, hRr3, hM⟩ := xbd hM
      refine xj_callV C [.int (xi ((p1 * 3) + v4))] [.double v2] 1 (c_X6_arrival hRr3) gX6_latestPin_X6_arrival rfl ⟨rfl, rfl⟩ hv_X6_arrival ⟨Nat.le_of_ble_eq_true rfl, Nat.le_of_ble_eq_true rfl⟩ 41 (eX_41 ad k _) rfl rfl (Nat.le_of_ble_eq_true rfl) dX6_latestPin_21 ?_
      obtain ⟨r4, hRr4, hM⟩ := xbd hM
      refine xj_callS C [.double v2, .double r3] [] 2 (c_X6_later hRr4) gX6_latestPin_X6_later rfl ⟨rfl, rfl⟩ hv_X6_later ⟨Nat.le_of_ble_eq_true rfl, Nat.le_of_ble_eq_true rfl⟩ rfl (Nat.le_of_ble_eq_true rfl) dX6_latestPin_24 ?_
      refine xj_dstore_n C (L1 := [(2, .double r4), (0, .ref (ad 41)), (1, .int (xi p1)), (4, .int (xi v4))]) dX6_latestPin_27 rfl (by decide) rfl ?_
      refine xj_iinc C 3 (L1 := [(4, .int (xi (v4 + 1))), (2, .double r4), (0, .ref (ad 41)), (1, .int (xi p1))]) dX6_latestPin_28 rfl (by decide) rfl ?_
      refine xj_goto C (tgt := 7) dX6_latestPin_31 (by decide) ?_
      refine xj_loc C [2, 3, 1, 0] (L1 := [(0, .ref (ad 41)), (1, .int (xi p1)), (2, .double r4), (4, .int (xi (v4 + 1)))]) rfl ?_
      exact ih _ _ _ hM K
set_option maxRecDepth 100000 in
set_option maxHeartbeats 4000000 in
theorem c_X6_latestPin {l : Launch} {D : va_G} {k : Nat → ClassId} {ad : Nat → Nat} {S : xS} {p1 : Int} {res : UInt64} (hM : m_X6_latestPin p1 S = some res) : xM l yX6_latestPin wsX6_latestPin rmX6_latestPin D k [.ref (ad 41), .int (xi p1)] (wX ad k S) (some (.double res)) (wX ad k S) := by
  refine xM_of (ret := (some .double)) (by decide) rfl (Nat.le_of_ble_eq_true rfl) (fun X C => ?_)
  have C : xC D k (xo X D k (some (.double res)) (wX ad k S)) X cX6_latestPin 5 RX6 wsX6_latestPin (some .double) rmX6_latestPin := C
  show xJ l D k (xo X D k (some (.double res)) (wX ad k S)) X 5 0 [(0, .ref (ad 41)), (1, .int (xi p1))] [] (wX ad k S)
  unfold m_X6_latestPin at hM
  refine xj_ldc2d C (List.mem_of_getElem? (i := 1) rfl) dX6_latestPin_0 ?_
  refine xj_dstore_n C (L1 := [(2, .double (13830554455654793216 : UInt64)), (0, .ref (ad 41)), (1, .int (xi p1))]) dX6_latestPin_3 rfl (by decide) rfl ?_
  refine xj_iconst C dX6_latestPin_4 ?_
  refine xj_istore C (L1 := [(4, .int (xi 0)), (2, .double (13830554455654793216 : UInt64)), (0, .ref (ad 41)), (1, .int (xi p1))]) dX6_latestPin_5 (by decide) rfl ?_
  obtain ⟨r5, hLr5, hM⟩ := xbd hM
  refine xj_loc C [2, 3, 1, 0] (L1 := [(0, .ref (ad 41)), (1, .int (xi p1)), (2, .double (13830554455654793216 : UInt64)), (4, .int (xi 0))]) rfl ?_
  refine j_X6_latestPin_L7 C p1 S _ _ _ _ hLr5 ?_
  refine xj_dload_n C 0 dX6_latestPin_34 rfl rfl ?_
  obtain rfl := Option.some.inj hM
  exact xj_dret C rfl dX6_latestPin_35
def rmX6_pinsAreKnown : Room := { frames := 1, cells := 0, slots := 0, locals := 21 }
theorem hv_X6_pinsAreKnown : yX6_pinsAreKnown.cls = RX6 ∧ yX6_pinsAreKnown.cls ≠ "java/lang/invoke/MethodHandle" ∧ yX6_pinsAreKnown.cls ≠ "java/lang/invoke/VarHandle" ∧ (parseMethodDescriptor yX6_pinsAreKnown.desc).map (fun d => d.parameters.length) = some 1 := by decide +kernel
def m_X6_pinsAreKnown_L2 (p1 : Int) (S : xS) : Nat → Int → Option ((Unit) ⊕ (Int))
  | 0, _ => none
  | n + 1, v2 => xck (xr v2) (if 3 ≤ v2 then some (.inl ()) else (m_X5_originOf ((p1 * 3) + v2) S).bind (fun r3 => xck (xr r3) (if r3 < 0 then m_X6_pinsAreKnown_L2 p1 S n (v2 + 1) else (if 16 ≤ r3 then m_X6_pinsAreKnown_L2 p1 S n (v2 + 1) else xck (0 ≤ r3 ∧ r3 < 16) (xck (xr (S 32 r3)) (if (S 32 r3) = 0 then some (.inr 0) else m_X6_pinsAreKnown_L2 p1 S n (v2 + 1)))))))
def m_X6_pinsAreKnown (p1 : Int) (S : xS) : Option (Int) := (m_X6_pinsAreKnown_L2 p1 S 2000 0).bind (fun r10 => match r10 with | .inl t11 => some 1 | .inr y12 => some y12)
set_option maxRecDepth 100000 in
set_option maxHeartbeats 4000000 in
theorem j_X6_pinsAreKnown_L2 {l : Launch} {D : va_G} {k : Nat → ClassId} {ad : Nat → Nat} {o : xO} {X : xX} (C : xC D k o X cX6_pinsAreKnown 4 RX6 wsX6_pinsAreKnown (some .boolean) rmX6_pinsAreKnown) (p1 : Int) (S : xS) : ∀ (n : Nat) (v2 : Int) (r : (Unit) ⊕ (Int)), m_X6_pinsAreKnown_L2 p1 S n v2 = some r → (∀ t, r = .inl t → xJ l D k o X 4 47 [] [] (wX ad k S)) → (∀ x, r = .inr x → o = (xo X D k (some (.int (xi x))) (wX ad k S))) → xJ l D k o X 4 2 [(0, .ref (ad 41)), (1, .int (xi p1)), (2, .int (xi v2))] [] (wX ad k S) := by
  intro n
  induction n with
  | zero =>
    intro v2 r hM
    cases hM
  | succ n ih =>
    intro v2 r hM K K2
    unfold m_X6_pinsAreKnown_L2 at hM
    refine xj_iload_n C 2 dX6_pinsAreKnown_2 rfl rfl ?_
    refine xj_iconst C dX6_pinsAreKnown_3 ?_
    obtain ⟨g1, hM⟩ := xck_some hM
    refine xj_icmp_ge C (tgt := 47) dX6_pinsAreKnown_4 (by decide) ⟨g1, (by decide)⟩ (fun c2 => ?_) (fun c2 => ?_)
    · have hM := xit hM c2
      obtain rfl := Option.some.inj hM
      refine xj_loc C [] (L1 := []) rfl ?_
      exact K _ rfl
    · have hM := xif hM c2
      refine xj_aload_n C 0 dX6_pinsAreKnown_7 rfl rfl ?_
      refine xj_get C (fun _ h => List.mem_cons_of_mem _ (List.mem_append_left _ (List.mem_append_right _ h))) 41 (eX_41 ad k S) rfl 0 (by decide) (List.mem_of_getElem? (i := 1) rfl) (fun _ _ h => h) rfl dX6_pinsAreKnown_8 ?_
      refine xj_iload_n C 1 dX6_pinsAreKnown_11 rfl rfl ?_
      refine xj_iconst C dX6_pinsAreKnown_12 ?_
      refine xj_imul C dX6_pinsAreKnown_13 ?_
      refine xj_iload_n C 2 dX6_pinsAreKnown_14 rfl rfl ?_
      refine xj_iadd C dX6_pinsAreKnown_15 ?_
      obtain ⟨r3, hRr3, hM⟩ := xbd hM
      refine xj_callV C [.int (xi ((p1 * 3) + v2))] [] 1 (c_X5_originOf hRr3) gX6_pinsAreKnown_X5_originOf rfl ⟨rfl, rfl⟩ hv_X5_originOf ⟨Nat.le_of_ble_eq_true rfl, Nat.le_of_ble_eq_true rfl⟩ 40 (eX_40 ad k _) rfl rfl (Nat.le_of_ble_eq_true rfl) dX6_pinsAreKnown_16 ?_
      refine xj_istore_n C (L1 := [(3, .int (xi r3)), (0, .ref (ad 41)), (1, .int (xi p1)), (2, .int (xi v2))]) dX6_pinsAreKnown_19 rfl (by decide) rfl ?_
      refine xj_iload_n C 0 dX6_pinsAreKnown_20 rfl rfl ?_
      obtain ⟨g4, hM⟩ := xck_some hM
      refine xj_if_lt C (tgt := 41) dX6_pinsAreKnown_21 (by decide) g4 (fun c5 => ?_) (fun c5 => ?_)
      · have hM := xit hM c5
        refine xj_iinc C 3 (L1 := [(2, .int (xi (v2 + 1))), (3, .int (xi r3)), (0, .ref (ad 41)), (1, .int (xi p1))]) dX6_pinsAreKnown_41 rfl (by decide) rfl ?_
        refine xj_goto C (tgt := 2) dX6_pinsAreKnown_44 (by decide) ?_
        refine xj_loc C [2, 3, 0] (L1 := [(0, .ref (ad 41)), (1, .int (xi p1)), (2, .int (xi (v2 + 1)))]) rfl ?_
        exact ih _ _ hM K K2
      · have hM := xif hM c5
        refine xj_iload_n C 0 dX6_pinsAreKnown_24 rfl rfl ?_
        refine xj_bipush C (n := 16) (by decide) dX6_pinsAreKnown_25 ?_
        refine xj_icmp_ge C (tgt := 41) dX6_pinsAreKnown_27 (by decide) ⟨g4, (by decide)⟩ (fun c6 => ?_) (fun c6 => ?_)
        · have hM := xit hM c6
          refine xj_iinc C 3 (L1 := [(2, .int (xi (v2 + 1))), (3, .int (xi r3)), (0, .ref (ad 41)), (1, .int (xi p1))]) dX6_pinsAreKnown_41 rfl (by decide) rfl ?_
          refine xj_goto C (tgt := 2) dX6_pinsAreKnown_44 (by decide) ?_
          refine xj_loc C [2, 3, 0] (L1 := [(0, .ref (ad 41)), (1, .int (xi p1)), (2, .int (xi (v2 + 1)))]) rfl ?_
          exact ih _ _ hM K K2
        · have hM := xif hM c6
          refine xj_aload_n C 1 dX6_pinsAreKnown_30 rfl rfl ?_
          refine xj_get C (fun _ h => List.mem_cons_of_mem _ (List.mem_append_left _ (List.mem_append_right _ h))) 41 (eX_41 ad k S) rfl 2 (by decide) (List.mem_of_getElem? (i := 2) rfl) (fun _ _ h => h) rfl dX6_pinsAreKnown_31 ?_
          refine xj_iload_n C 0 dX6_pinsAreKnown_34 rfl rfl ?_
          obtain ⟨g7, hM⟩ := xck_some hM
          refine xj_zald C 32 S 32 (eX_32 ad k S) (Nat.le_of_ble_eq_true rfl) g7 dX6_pinsAreKnown_35 ?_
          obtain ⟨g8, hM⟩ := xck_some hM
          refine xj_if_ne C (tgt := 41) dX6_pinsAreKnown_36 (by decide) g8 (fun c9 => ?_) (fun c9 => ?_)
          · have hM := xif hM c9
            refine xj_iinc C 3 (L1 := [(2, .int (xi (v2 + 1))), (3, .int (xi r3)), (0, .ref (ad 41)), (1, .int (xi p1))]) dX6_pinsAreKnown_41 rfl (by decide) rfl ?_
            refine xj_goto C (tgt := 2) dX6_pinsAreKnown_44 (by decide) ?_
            refine xj_loc C [2, 3, 0] (L1 := [(0, .ref (ad 41)), (1, .int (xi p1)), (2, .int (xi (v2 + 1)))]) rfl ?_
            exact ih _ _ hM K K2
          · have hM := xit hM c9
            refine xj_iconst C dX6_pinsAreKnown_39 ?_
            obtain rfl := Option.some.inj hM
            obtain rfl := K2 _ rfl
            exact xj_zret (Or.inl rfl) C rfl dX6_pinsAreKnown_40
set_option maxRecDepth 100000 in
set_option maxHeartbeats 4000000 in
theorem c_X6_pinsAreKnown {l : Launch} {D : va_G} {k : Nat → ClassId} {ad : Nat → Nat} {S : xS} {p1 : Int} {res : Int} (hM : m_X6_pinsAreKnown p1 S = some res) : xM l yX6_pinsAreKnown wsX6_pinsAreKnown rmX6_pinsAreKnown D k [.ref (ad 41), .int (xi p1)] (wX ad k S) (some (.int (xi res))) (wX ad k S) := by
  refine xM_of (ret := (some .boolean)) (by decide) rfl (Nat.le_of_ble_eq_true rfl) (fun X C => ?_)
  have C : xC D k (xo X D k (some (.int (xi res))) (wX ad k S)) X cX6_pinsAreKnown 4 RX6 wsX6_pinsAreKnown (some .boolean) rmX6_pinsAreKnown := C
  show xJ l D k (xo X D k (some (.int (xi res))) (wX ad k S)) X 4 0 [(0, .ref (ad 41)), (1, .int (xi p1))] [] (wX ad k S)
  unfold m_X6_pinsAreKnown at hM
  refine xj_iconst C dX6_pinsAreKnown_0 ?_
  refine xj_istore_n C (L1 := [(2, .int (xi 0)), (0, .ref (ad 41)), (1, .int (xi p1))]) dX6_pinsAreKnown_1 rfl (by decide) rfl ?_
  obtain ⟨r10, hLr10, hM⟩ := xbd hM
  refine xj_loc C [1, 2, 0] (L1 := [(0, .ref (ad 41)), (1, .int (xi p1)), (2, .int (xi 0))]) rfl ?_
  rcases r10 with t11 | y12
  · refine j_X6_pinsAreKnown_L2 C p1 S _ _ _ hLr10 (fun tz ez => ?_) (fun tz ez => by cases ez)
    obtain rfl := Sum.inl.inj ez
    try dsimp only at hM
    refine xj_iconst C dX6_pinsAreKnown_47 ?_
    obtain rfl := Option.some.inj hM
    exact xj_zret (Or.inr rfl) C rfl dX6_pinsAreKnown_48
  · refine j_X6_pinsAreKnown_L2 C p1 S _ _ _ hLr10 (fun tz ez => by cases ez) (fun tz ez => ?_)
    obtain rfl := Sum.inr.inj ez
    try dsimp only at hM
    obtain rfl := Option.some.inj hM
    rfl
def rmX6_timeOutlets : Room := { frames := 3, cells := 0, slots := 0, locals := 69 }
theorem hv_X6_timeOutlets : yX6_timeOutlets.cls = RX6 ∧ yX6_timeOutlets.cls ≠ "java/lang/invoke/MethodHandle" ∧ yX6_timeOutlets.cls ≠ "java/lang/invoke/VarHandle" ∧ (parseMethodDescriptor yX6_timeOutlets.desc).map (fun d => d.parameters.length) = some 0 := by decide +kernel
def m_X6_timeOutlets_L4 : Nat → Int → Int → xS → Option (Int × xS)
  | 0, _, _, _ => none
  | n + 1, v1, v2, S => xck (xr v2) (if 16 ≤ v2 then some (v1, S) else (m_X5_hasRegister v2 S).bind (fun r3 => xck ((0 ≤ v2 ∧ v2 < 16) ∧ (r3 = 0 ∨ r3 = 1)) (xck (0 ≤ v2 ∧ v2 < 16) ((xck (xr ((xup S 32 v2 r3) 32 v2)) (if ((xup S 32 v2 r3) 32 v2) = 0 then some 1 else some 0)).bind (fun r6 => m_X6_timeOutlets_L4 n (v1 + r6) (v2 + 1) (xup (xup S 32 v2 r3) 31 v2 ((4602678819172646912 : UInt64).toNat : Int)))))))
def m_X6_timeOutlets_L70 (p2 : Int) : Nat → Int → Int → xS → Option (Int × xS)
  | 0, _, _, _ => none
  | n + 1, v1, v3, S => xck (xr v3) (if 16 ≤ v3 then some (v1, S) else xck (0 ≤ v3 ∧ v3 < 16) ((xck (xr (S 32 v3)) (if (S 32 v3) = 0 then (m_X6_pinsAreKnown v3 S).bind (fun r20 => xck (xr r20) (if r20 = 0 then some (v1, S) else (m_X6_latestPin v3 S).bind (fun r23 => (m_X6_later FP.dconst0 r23).bind (fun r24 => xck ((FP.dadd (4603804719079489536 : UInt64) r24) &&& 9223372036854775807 ≤ (9218868437227405312 : UInt64)) (xck ((0 ≤ v3 ∧ v3 < 16)) (some ((v1 + (-1)), (xup (xup S 31 v3 ((FP.dadd (4603804719079489536 : UInt64) r24).toNat : Int)) 32 v3 1)))))))) else some (v1, S))).bind (fun r17 => m_X6_timeOutlets_L70 p2 n r17.1 (v3 + 1) r17.2)))
def m_X6_timeOutlets_L58 : Nat → Int → Int → xS → Option (Int × xS)
  | 0, _, _, _ => none
  | n + 1, v1, v2, S => xck (xr v2) (if 16 ≤ v2 then some (v1, S) else xck (xr v1) (if v1 ≤ 0 then some (v1, S) else (m_X6_timeOutlets_L70 v2 2000 v1 0 S).bind (fun r27 => m_X6_timeOutlets_L58 n r27.1 (v2 + 1) r27.2)))
def m_X6_timeOutlets (S : xS) : Option (Int × xS) := (m_X6_timeOutlets_L4 2000 0 0 S).bind (fun r9 => (m_X6_timeOutlets_L58 2000 r9.1 0 r9.2).bind (fun r28 => xck (xr r28.1) (if r28.1 = 0 then some (1, r28.2) else some (0, r28.2))))
set_option maxRecDepth 100000 in
set_option maxHeartbeats 4000000 in
theorem j_X6_timeOutlets_L4 {l : Launch} {D : va_G} {k : Nat → ClassId} {ad : Nat → Nat} {o : xO} {X : xX} (C : xC D k o X cX6_timeOutlets 4 RX6 wsX6_timeOutlets (some .boolean) rmX6_timeOutlets) : ∀ (n : Nat) (v1 : Int) (v2 : Int) (S : xS) (r : Int × xS), m_X6_timeOutlets_L4 n v1 v2 S = some r → (xJ l D k o X 4 56 [(0, .ref (ad 41)), (1, .int (xi r.1))] [] (wX ad k r.2)) → xJ l D k o X 4 4 [(0, .ref (ad 41)), (1, .int (xi v1)), (2, .int (xi v2))] [] (wX ad k S) := by
  intro n
  induction n with
  | zero =>
    intro v1 v2 S r hM
    cases hM
  | succ n ih =>
    intro v1 v2 S r hM K
    unfold m_X6_timeOutlets_L4 at hM
    refine xj_iload_n C 2 dX6_timeOutlets_4 rfl rfl ?_
    refine xj_bipush C (n := 16) (by decide) dX6_timeOutlets_5 ?_
    obtain ⟨g1, hM⟩ := xck_some hM
    refine xj_icmp_ge C (tgt := 56) dX6_timeOutlets_7 (by decide) ⟨g1, (by decide)⟩ (fun c2 => ?_) (fun c2 => ?_)
    · have hM := xit hM c2
      obtain rfl := Option.some.inj hM
      refine xj_loc C [0, 1] (L1 := [(0, .ref (ad 41)), (1, .int (xi v1))]) rfl ?_
      exact K
    · have hM := xif hM c2
      refine xj_aload_n C 0 dX6_timeOutlets_10 rfl rfl ?_
      refine xj_get C (fun _ h => List.mem_cons_of_mem _ (List.mem_append_left _ (List.mem_append_right _ h))) 41 (eX_41 ad k S) rfl 2 (by decide) (List.mem_of_getElem? (i := 1) rfl) (fun _ _ h => h) rfl dX6_timeOutlets_11 ?_
      refine xj_iload_n C 2 dX6_timeOutlets_14 rfl rfl ?_
      refine xj_aload_n C 0 dX6_timeOutlets_15 rfl rfl ?_
      refine xj_get C (fun _ h => List.mem_cons_of_mem _ (List.mem_append_left _ (List.mem_append_right _ h))) 41 (eX_41 ad k S) rfl 0 (by decide) (List.mem_of_getElem? (i := 2) rfl) (fun _ _ h => h) rfl dX6_timeOutlets_16 ?_
      refine xj_iload_n C 2 dX6_timeOutlets_19 rfl rfl ?_
      obtain ⟨r3, hRr3, hM⟩ := xbd hM
      refine xj_callV C [.int (xi v2)] [.int (xi v2), .ref (ad 32)] 1 (c_X5_hasRegister hRr3) gX6_timeOutlets_X5_hasRegister rfl ⟨rfl, rfl⟩ hv_X5_hasRegister ⟨Nat.le_of_ble_eq_true rfl, Nat.le_of_ble_eq_true rfl⟩ 40 (eX_40 ad k _) rfl rfl (Nat.le_of_ble_eq_true rfl) dX6_timeOutlets_20 ?_
      obtain ⟨g4, hM⟩ := xck_some hM
      refine xj_zast C 32 S 32 (eX_32 ad k S) (Nat.le_of_ble_eq_true rfl) g4.2 g4.1 (sX_32 ad k S v2 r3) dX6_timeOutlets_23 ?_
      refine xj_aload_n C 0 dX6_timeOutlets_24 rfl rfl ?_
      refine xj_get C (fun _ h => List.mem_cons_of_mem _ (List.mem_append_left _ (List.mem_append_right _ h))) 41 (eX_41 ad k (xup S 32 v2 r3)) rfl 1 (by decide) (List.mem_of_getElem? (i := 3) rfl) (fun _ _ h => h) rfl dX6_timeOutlets_25 ?_
      refine xj_iload_n C 2 dX6_timeOutlets_28 rfl rfl ?_
      refine xj_ldc2d C (List.mem_of_getElem? (i := 4) rfl) dX6_timeOutlets_29 ?_
      obtain ⟨g5, hM⟩ := xck_some hM
      refine xj_dast C 31 (xup S 32 v2 r3) 31 (eX_31 ad k (xup S 32 v2 r3)) (Nat.le_of_ble_eq_true rfl) g5 (sX_31 ad k (xup S 32 v2 r3) v2 (4602678819172646912 : UInt64)) dX6_timeOutlets_32 ?_
      refine xj_iload_n C 1 dX6_timeOutlets_33 rfl rfl ?_
      refine xj_aload_n C 0 dX6_timeOutlets_34 rfl rfl ?_
      refine xj_get C (fun _ h => List.mem_cons_of_mem _ (List.mem_append_left _ (List.mem_append_right _ h))) 41 (eX_41 ad k (xup (xup S 32 v2 r3) 31 v2 ((4602678819172646912 : UInt64).toNat : Int))) rfl 2 (by decide) (List.mem_of_getElem? (i := 1) rfl) (fun _ _ h => h) rfl dX6_timeOutlets_35 ?_
      refine xj_iload_n C 2 dX6_timeOutlets_38 rfl rfl ?_
      refine xj_zald C 32 (xup S 32 v2 r3) 32 (eX_32 ad k (xup (xup S 32 v2 r3) 31 v2 ((4602678819172646912 : UInt64).toNat : Int))) (Nat.le_of_ble_eq_true rfl) g5 dX6_timeOutlets_39 ?_
      obtain ⟨r6, hRr6, hM⟩ := xbd hM
      have Kr6 : xJ l D k o X 4 48 [(0, .ref (ad 41)), (2, .int (xi v2))] [.int (xi r6), .int (xi v1)] (wX ad k (xup (xup S 32 v2 r3) 31 v2 ((4602678819172646912 : UInt64).toNat : Int))) := by
        refine xj_iadd C dX6_timeOutlets_48 ?_
        refine xj_istore_n C (L1 := [(1, .int (xi (v1 + r6))), (0, .ref (ad 41)), (2, .int (xi v2))]) dX6_timeOutlets_49 rfl (by decide) rfl ?_
        refine xj_iinc C 2 (L1 := [(2, .int (xi (v2 + 1))), (1, .int (xi (v1 + r6))), (0, .ref (ad 41))]) dX6_timeOutlets_50 rfl (by decide) rfl ?_
        refine xj_goto C (tgt := 4) dX6_timeOutlets_53 (by decide) ?_
        refine xj_loc C [2, 1, 0] (L1 := [(0, .ref (ad 41)), (1, .int (xi (v1 + r6))), (2, .int (xi (v2 + 1)))]) rfl ?_
        exact ih _ _ _ _ hM K
      clear hM
      have hM := hRr6
      obtain ⟨g7, hM⟩ := xck_some hM
      refine xj_if_eq C (tgt := 47) dX6_timeOutlets_40 (by decide) g7 (fun c8 => ?_) (fun c8 => ?_)
      · have hM := xit hM c8
        refine xj_iconst C dX6_timeOutlets_47 ?_
        obtain rfl := Option.some.inj hM
        refine xj_loc C [0, 2] (L1 := [(0, .ref (ad 41)), (2, .int (xi v2))]) rfl ?_
        exact Kr6
      · have hM := xif hM c8
        refine xj_iconst C dX6_timeOutlets_43 ?_
        refine xj_goto C (tgt := 48) dX6_timeOutlets_44 (by decide) ?_
        obtain rfl := Option.some.inj hM
        refine xj_loc C [0, 2] (L1 := [(0, .ref (ad 41)), (2, .int (xi v2))]) rfl ?_
        exact Kr6
set_option maxRecDepth 100000 in
set_option maxHeartbeats 4000000 in
theorem j_X6_timeOutlets_L70 {l : Launch} {D : va_G} {k : Nat → ClassId} {ad : Nat → Nat} {o : xO} {X : xX} (C : xC D k o X cX6_timeOutlets 4 RX6 wsX6_timeOutlets (some .boolean) rmX6_timeOutlets) (p2 : Int) : ∀ (n : Nat) (v1 : Int) (v3 : Int) (S : xS) (r : Int × xS), m_X6_timeOutlets_L70 p2 n v1 v3 S = some r → (xJ l D k o X 4 128 [(0, .ref (ad 41)), (1, .int (xi r.1)), (2, .int (xi p2))] [] (wX ad k r.2)) → xJ l D k o X 4 70 [(0, .ref (ad 41)), (1, .int (xi v1)), (2, .int (xi p2)), (3, .int (xi v3))] [] (wX ad k S) := by
  intro n
  induction n with
  | zero =>
    intro v1 v3 S r hM
    cases hM
  | succ n ih =>
    intro v1 v3 S r hM K
    unfold m_X6_timeOutlets_L70 at hM
    refine xj_iload_n C 3 dX6_timeOutlets_70 rfl rfl ?_
    refine xj_bipush C (n := 16) (by decide) dX6_timeOutlets_71 ?_
    obtain ⟨g14, hM⟩ := xck_some hM
    refine xj_icmp_ge C (tgt := 128) dX6_timeOutlets_73 (by decide) ⟨g14, (by decide)⟩ (fun c15 => ?_) (fun c15 => ?_)
    · have hM := xit hM c15
      obtain rfl := Option.some.inj hM
      refine xj_loc C [0, 1, 2] (L1 := [(0, .ref (ad 41)), (1, .int (xi v1)), (2, .int (xi p2))]) rfl ?_
      exact K
    · have hM := xif hM c15
      refine xj_aload_n C 0 dX6_timeOutlets_76 rfl rfl ?_
      refine xj_get C (fun _ h => List.mem_cons_of_mem _ (List.mem_append_left _ (List.mem_append_right _ h))) 41 (eX_41 ad k S) rfl 2 (by decide) (List.mem_of_getElem? (i := 1) rfl) (fun _ _ h => h) rfl dX6_timeOutlets_77 ?_
      refine xj_iload_n C 3 dX6_timeOutlets_80 rfl rfl ?_
      obtain ⟨g16, hM⟩ := xck_some hM
      refine xj_zald C 32 S 32 (eX_32 ad k S) (Nat.le_of_ble_eq_true rfl) g16 dX6_timeOutlets_81 ?_
      obtain ⟨r17, hRr17, hM⟩ := xbd hM
      have Kr17 : xJ l D k o X 4 122 [(0, .ref (ad 41)), (1, .int (xi r17.1)), (2, .int (xi p2)), (3, .int (xi v3))] [] (wX ad k r17.2) := by
        refine xj_iinc C 3 (L1 := [(3, .int (xi (v3 + 1))), (0, .ref (ad 41)), (1, .int (xi r17.1)), (2, .int (xi p2))]) dX6_timeOutlets_122 rfl (by decide) rfl ?_
        refine xj_goto C (tgt := 70) dX6_timeOutlets_125 (by decide) ?_
        refine xj_loc C [1, 2, 3, 0] (L1 := [(0, .ref (ad 41)), (1, .int (xi r17.1)), (2, .int (xi p2)), (3, .int (xi (v3 + 1)))]) rfl ?_
        exact ih _ _ _ _ hM K
      clear hM
      have hM := hRr17
      obtain ⟨g18, hM⟩ := xck_some hM
      refine xj_if_ne C (tgt := 122) dX6_timeOutlets_82 (by decide) g18 (fun c19 => ?_) (fun c19 => ?_)
      · have hM := xif hM c19
        obtain rfl := Option.some.inj hM
        exact Kr17
      · have hM := xit hM c19
        refine xj_aload_n C 0 dX6_timeOutlets_85 rfl rfl ?_
        refine xj_iload_n C 3 dX6_timeOutlets_86 rfl rfl ?_
        obtain ⟨r20, hRr20, hM⟩ := xbd hM
        refine xj_callV C [.int (xi v3)] [] 1 (c_X6_pinsAreKnown hRr20) gX6_timeOutlets_X6_pinsAreKnown rfl ⟨rfl, rfl⟩ hv_X6_pinsAreKnown ⟨Nat.le_of_ble_eq_true rfl, Nat.le_of_ble_eq_true rfl⟩ 41 (eX_41 ad k _) rfl rfl (Nat.le_of_ble_eq_true rfl) dX6_timeOutlets_87 ?_
        obtain ⟨g21, hM⟩ := xck_some hM
        refine xj_if_eq C (tgt := 122) dX6_timeOutlets_90 (by decide) g21 (fun c22 => ?_) (fun c22 => ?_)
        · have hM := xit hM c22
          obtain rfl := Option.some.inj hM
          exact Kr17
        · have hM := xif hM c22
          refine xj_aload_n C 0 dX6_timeOutlets_93 rfl rfl ?_
          refine xj_get C (fun _ h => List.mem_cons_of_mem _ (List.mem_append_left _ (List.mem_append_right _ h))) 41 (eX_41 ad k S) rfl 1 (by decide) (List.mem_of_getElem? (i := 3) rfl) (fun _ _ h => h) rfl dX6_timeOutlets_94 ?_
          refine xj_iload_n C 3 dX6_timeOutlets_97 rfl rfl ?_
          refine xj_ldc2d C (List.mem_of_getElem? (i := 5) rfl) dX6_timeOutlets_98 ?_
          refine xj_dconst0 C dX6_timeOutlets_101 ?_
          refine xj_aload_n C 0 dX6_timeOutlets_102 rfl rfl ?_
          refine xj_iload_n C 3 dX6_timeOutlets_103 rfl rfl ?_
          obtain ⟨r23, hRr23, hM⟩ := xbd hM
          refine xj_callV C [.int (xi v3)] [.double FP.dconst0, .double (4603804719079489536 : UInt64), .int (xi v3), .ref (ad 31)] 1 (c_X6_latestPin hRr23) gX6_timeOutlets_X6_latestPin rfl ⟨rfl, rfl⟩ hv_X6_latestPin ⟨Nat.le_of_ble_eq_true rfl, Nat.le_of_ble_eq_true rfl⟩ 41 (eX_41 ad k _) rfl rfl (Nat.le_of_ble_eq_true rfl) dX6_timeOutlets_104 ?_
          obtain ⟨r24, hRr24, hM⟩ := xbd hM
          refine xj_callS C [.double FP.dconst0, .double r23] [.double (4603804719079489536 : UInt64), .int (xi v3), .ref (ad 31)] 2 (c_X6_later hRr24) gX6_timeOutlets_X6_later rfl ⟨rfl, rfl⟩ hv_X6_later ⟨Nat.le_of_ble_eq_true rfl, Nat.le_of_ble_eq_true rfl⟩ rfl (Nat.le_of_ble_eq_true rfl) dX6_timeOutlets_107 ?_
          obtain ⟨g25, hM⟩ := xck_some hM
          refine xj_dadd C g25 dX6_timeOutlets_110 ?_
          refine xj_dast C 31 S 31 (eX_31 ad k S) (Nat.le_of_ble_eq_true rfl) g16 (sX_31 ad k S v3 (FP.dadd (4603804719079489536 : UInt64) r24)) dX6_timeOutlets_111 ?_
          refine xj_aload_n C 0 dX6_timeOutlets_112 rfl rfl ?_
          refine xj_get C (fun _ h => List.mem_cons_of_mem _ (List.mem_append_left _ (List.mem_append_right _ h))) 41 (eX_41 ad k (xup S 31 v3 ((FP.dadd (4603804719079489536 : UInt64) r24).toNat : Int))) rfl 2 (by decide) (List.mem_of_getElem? (i := 1) rfl) (fun _ _ h => h) rfl dX6_timeOutlets_113 ?_
          refine xj_iload_n C 3 dX6_timeOutlets_116 rfl rfl ?_
          refine xj_iconst C dX6_timeOutlets_117 ?_
          obtain ⟨g26, hM⟩ := xck_some hM
          refine xj_zast C 32 (xup S 31 v3 ((FP.dadd (4603804719079489536 : UInt64) r24).toNat : Int)) 32 (eX_32 ad k (xup S 31 v3 ((FP.dadd (4603804719079489536 : UInt64) r24).toNat : Int))) (Nat.le_of_ble_eq_true rfl) (Or.inr rfl) g26 (sX_32 ad k (xup S 31 v3 ((FP.dadd (4603804719079489536 : UInt64) r24).toNat : Int)) v3 1) dX6_timeOutlets_118 ?_
          refine xj_iinc C 1 (L1 := [(1, .int (xi (v1 + (-1)))), (0, .ref (ad 41)), (2, .int (xi p2)), (3, .int (xi v3))]) dX6_timeOutlets_119 rfl (by decide) rfl ?_
          obtain rfl := Option.some.inj hM
          refine xj_loc C [1, 0, 2, 3] (L1 := [(0, .ref (ad 41)), (1, .int (xi (v1 + (-1)))), (2, .int (xi p2)), (3, .int (xi v3))]) rfl ?_
          exact Kr17
set_option maxRecDepth 100000 in
set_option maxHeartbeats 4000000 in
theorem j_X6_timeOutlets_L58 {l : Launch} {D : va_G} {k : Nat → ClassId} {ad : Nat → Nat} {o : xO} {X : xX} (C : xC D k o X cX6_timeOutlets 4 RX6 wsX6_timeOutlets (some .boolean) rmX6_timeOutlets) : ∀ (n : Nat) (v1 : Int) (v2 : Int) (S : xS) (r : Int × xS), m_X6_timeOutlets_L58 n v1 v2 S = some r → (xJ l D k o X 4 134 [(1, .int (xi r.1))] [] (wX ad k r.2)) → xJ l D k o X 4 58 [(0, .ref (ad 41)), (1, .int (xi v1)), (2, .int (xi v2))] [] (wX ad k S) := by
  intro n
  induction n with
  | zero =>
    intro v1 v2 S r hM
    cases hM
  | succ n ih =>
    intro v1 v2 S r hM K
    unfold m_X6_timeOutlets_L58 at hM
    refine xj_iload_n C 2 dX6_timeOutlets_58 rfl rfl ?_
    refine xj_bipush C (n := 16) (by decide) dX6_timeOutlets_59 ?_
    obtain ⟨g10, hM⟩ := xck_some hM
    refine xj_icmp_ge C (tgt := 134) dX6_timeOutlets_61 (by decide) ⟨g10, (by decide)⟩ (fun c11 => ?_) (fun c11 => ?_)
    · have hM := xit hM c11
      obtain rfl := Option.some.inj hM
      refine xj_loc C [1] (L1 := [(1, .int (xi v1))]) rfl ?_
      exact K
    · have hM := xif hM c11
      refine xj_iload_n C 1 dX6_timeOutlets_64 rfl rfl ?_
      obtain ⟨g12, hM⟩ := xck_some hM
      refine xj_if_le C (tgt := 134) dX6_timeOutlets_65 (by decide) g12 (fun c13 => ?_) (fun c13 => ?_)
      · have hM := xit hM c13
        obtain rfl := Option.some.inj hM
        refine xj_loc C [1] (L1 := [(1, .int (xi v1))]) rfl ?_
        exact K
      · have hM := xif hM c13
        refine xj_iconst C dX6_timeOutlets_68 ?_
        refine xj_istore_n C (L1 := [(3, .int (xi 0)), (0, .ref (ad 41)), (1, .int (xi v1)), (2, .int (xi v2))]) dX6_timeOutlets_69 rfl (by decide) rfl ?_
        obtain ⟨r27, hLr27, hM⟩ := xbd hM
        refine xj_loc C [1, 2, 3, 0] (L1 := [(0, .ref (ad 41)), (1, .int (xi v1)), (2, .int (xi v2)), (3, .int (xi 0))]) rfl ?_
        refine j_X6_timeOutlets_L70 C v2 _ _ _ _ _ hLr27 ?_
        refine xj_iinc C 2 (L1 := [(2, .int (xi (v2 + 1))), (0, .ref (ad 41)), (1, .int (xi r27.1))]) dX6_timeOutlets_128 rfl (by decide) rfl ?_
        refine xj_goto C (tgt := 58) dX6_timeOutlets_131 (by decide) ?_
        refine xj_loc C [1, 2, 0] (L1 := [(0, .ref (ad 41)), (1, .int (xi r27.1)), (2, .int (xi (v2 + 1)))]) rfl ?_
        exact ih _ _ _ _ hM K
set_option maxRecDepth 100000 in
set_option maxHeartbeats 4000000 in
theorem c_X6_timeOutlets {l : Launch} {D : va_G} {k : Nat → ClassId} {ad : Nat → Nat} {S : xS} {res : Int × xS} (hM : m_X6_timeOutlets S = some res) : xM l yX6_timeOutlets wsX6_timeOutlets rmX6_timeOutlets D k [.ref (ad 41)] (wX ad k S) (some (.int (xi res.1))) (wX ad k res.2) := by
  refine xM_of (ret := (some .boolean)) (by decide) rfl (Nat.le_of_ble_eq_true rfl) (fun X C => ?_)
  have C : xC D k (xo X D k (some (.int (xi res.1))) (wX ad k res.2)) X cX6_timeOutlets 4 RX6 wsX6_timeOutlets (some .boolean) rmX6_timeOutlets := C
  show xJ l D k (xo X D k (some (.int (xi res.1))) (wX ad k res.2)) X 4 0 [(0, .ref (ad 41))] [] (wX ad k S)
  unfold m_X6_timeOutlets at hM
  refine xj_iconst C dX6_timeOutlets_0 ?_
  refine xj_istore_n C (L1 := [(1, .int (xi 0)), (0, .ref (ad 41))]) dX6_timeOutlets_1 rfl (by decide) rfl ?_
  refine xj_iconst C dX6_timeOutlets_2 ?_
  refine xj_istore_n C (L1 := [(2, .int (xi 0)), (1, .int (xi 0)), (0, .ref (ad 41))]) dX6_timeOutlets_3 rfl (by decide) rfl ?_
  obtain ⟨r9, hLr9, hM⟩ := xbd hM
  refine xj_loc C [2, 1, 0] (L1 := [(0, .ref (ad 41)), (1, .int (xi 0)), (2, .int (xi 0))]) rfl ?_
  refine j_X6_timeOutlets_L4 C _ _ _ _ _ hLr9 ?_
  refine xj_iconst C dX6_timeOutlets_56 ?_
  refine xj_istore_n C (L1 := [(2, .int (xi 0)), (0, .ref (ad 41)), (1, .int (xi r9.1))]) dX6_timeOutlets_57 rfl (by decide) rfl ?_
  obtain ⟨r28, hLr28, hM⟩ := xbd hM
  refine xj_loc C [1, 2, 0] (L1 := [(0, .ref (ad 41)), (1, .int (xi r9.1)), (2, .int (xi 0))]) rfl ?_
  refine j_X6_timeOutlets_L58 C _ _ _ _ _ hLr28 ?_
  refine xj_iload_n C 0 dX6_timeOutlets_134 rfl rfl ?_
  obtain ⟨g29, hM⟩ := xck_some hM
  refine xj_if_ne C (tgt := 142) dX6_timeOutlets_135 (by decide) g29 (fun c30 => ?_) (fun c30 => ?_)
  · have hM := xif hM c30
    refine xj_iconst C dX6_timeOutlets_142 ?_
    obtain rfl := Option.some.inj hM
    exact xj_zret (Or.inl rfl) C rfl dX6_timeOutlets_143
  · have hM := xit hM c30
    refine xj_iconst C dX6_timeOutlets_138 ?_
    refine xj_goto C (tgt := 143) dX6_timeOutlets_139 (by decide) ?_
    obtain rfl := Option.some.inj hM
    exact xj_zret (Or.inr rfl) C rfl dX6_timeOutlets_143
def rmX6_longestWay : Room := { frames := 4, cells := 0, slots := 0, locals := 92 }
theorem hv_X6_longestWay : yX6_longestWay.cls = RX6 ∧ yX6_longestWay.cls ≠ "java/lang/invoke/MethodHandle" ∧ yX6_longestWay.cls ≠ "java/lang/invoke/VarHandle" ∧ (parseMethodDescriptor yX6_longestWay.desc).map (fun d => d.parameters.length) = some 0 := by decide +kernel
def m_X6_longestWay_L15 (S : xS) : Nat → UInt64 → Int → Option (UInt64)
  | 0, _, _ => none
  | n + 1, v1, v3 => xck (xr v3) (if 16 ≤ v3 then some v1 else (m_X6_latestPin v3 S).bind (fun r6 => (m_X5_hasRegister v3 S).bind (fun r7 => (xck (xr r7) (if r7 = 0 then some v1 else (if (xb_dcmp .l r6 FP.dconst0) < 0 then some v1 else xck ((FP.dadd r6 (4603804719079489536 : UInt64)) &&& 9223372036854775807 ≤ (9218868437227405312 : UInt64)) (xck ((FP.dadd (FP.dadd r6 (4603804719079489536 : UInt64)) (4598175219545276416 : UInt64)) &&& 9223372036854775807 ≤ (9218868437227405312 : UInt64)) ((m_X6_later v1 (FP.dadd (FP.dadd r6 (4603804719079489536 : UInt64)) (4598175219545276416 : UInt64))).bind (fun r14 => some r14)))))).bind (fun r8 => m_X6_longestWay_L15 S n r8 (v3 + 1)))))
def m_X6_longestWay_L69 (S : xS) : Nat → UInt64 → Int → Option (UInt64)
  | 0, _, _ => none
  | n + 1, v1, v3 => xck (xr v3) (if 4 ≤ v3 then some v1 else (m_X6_arrival (48 + v3) S).bind (fun r18 => (m_X6_later v1 r18).bind (fun r19 => m_X6_longestWay_L69 S n r19 (v3 + 1))))
def m_X6_longestWay (S : xS) : Option (UInt64 × xS) := (m_X6_timeOutlets S).bind (fun r1 => xck (xr r1.1) (if r1.1 = 0 then some ((13830554455654793216 : UInt64), r1.2) else (m_X6_longestWay_L15 r1.2 2000 FP.dconst0 0).bind (fun r15 => (m_X6_longestWay_L69 r1.2 2000 r15 0).bind (fun r20 => some (r20, r1.2)))))
set_option maxRecDepth 100000 in
set_option maxHeartbeats 4000000 in
theorem j_X6_longestWay_L15 {l : Launch} {D : va_G} {k : Nat → ClassId} {ad : Nat → Nat} {o : xO} {X : xX} (C : xC D k o X cX6_longestWay 6 RX6 wsX6_longestWay (some .double) rmX6_longestWay) (S : xS) : ∀ (n : Nat) (v1 : UInt64) (v3 : Int) (r : UInt64), m_X6_longestWay_L15 S n v1 v3 = some r → (xJ l D k o X 6 67 [(0, .ref (ad 41)), (1, .double r)] [] (wX ad k S)) → xJ l D k o X 6 15 [(0, .ref (ad 41)), (1, .double v1), (3, .int (xi v3))] [] (wX ad k S) := by
  intro n
  induction n with
  | zero =>
    intro v1 v3 r hM
    cases hM
  | succ n ih =>
    intro v1 v3 r hM K
    unfold m_X6_longestWay_L15 at hM
    refine xj_iload_n C 2 dX6_longestWay_15 rfl rfl ?_
    refine xj_bipush C (n := 16) (by decide) dX6_longestWay_16 ?_
    obtain ⟨g4, hM⟩ := xck_some hM
    refine xj_icmp_ge C (tgt := 67) dX6_longestWay_18 (by decide) ⟨g4, (by decide)⟩ (fun c5 => ?_) (fun c5 => ?_)
    · have hM := xit hM c5
      obtain rfl := Option.some.inj hM
      refine xj_loc C [0, 1] (L1 := [(0, .ref (ad 41)), (1, .double v1)]) rfl ?_
      exact K
    · have hM := xif hM c5
      refine xj_aload_n C 0 dX6_longestWay_21 rfl rfl ?_
      refine xj_iload_n C 2 dX6_longestWay_22 rfl rfl ?_
      obtain ⟨r6, hRr6, hM⟩ := xbd hM
      refine xj_callV C [.int (xi v3)] [] 1 (c_X6_latestPin hRr6) gX6_longestWay_X6_latestPin rfl ⟨rfl, rfl⟩ hv_X6_latestPin ⟨Nat.le_of_ble_eq_true rfl, Nat.le_of_ble_eq_true rfl⟩ 41 (eX_41 ad k _) rfl rfl (Nat.le_of_ble_eq_true rfl) dX6_longestWay_23 ?_
      refine xj_dstore C (L1 := [(4, .double r6), (0, .ref (ad 41)), (1, .double v1), (3, .int (xi v3))]) dX6_longestWay_26 (by decide) rfl ?_
      refine xj_aload_n C 1 dX6_longestWay_28 rfl rfl ?_
      refine xj_get C (fun _ h => List.mem_cons_of_mem _ (List.mem_append_left _ (List.mem_append_right _ h))) 41 (eX_41 ad k S) rfl 0 (by decide) (List.mem_of_getElem? (i := 2) rfl) (fun _ _ h => h) rfl dX6_longestWay_29 ?_
      refine xj_iload_n C 3 dX6_longestWay_32 rfl rfl ?_
      obtain ⟨r7, hRr7, hM⟩ := xbd hM
      refine xj_callV C [.int (xi v3)] [] 1 (c_X5_hasRegister hRr7) gX6_longestWay_X5_hasRegister rfl ⟨rfl, rfl⟩ hv_X5_hasRegister ⟨Nat.le_of_ble_eq_true rfl, Nat.le_of_ble_eq_true rfl⟩ 40 (eX_40 ad k _) rfl rfl (Nat.le_of_ble_eq_true rfl) dX6_longestWay_33 ?_
      obtain ⟨r8, hRr8, hM⟩ := xbd hM
      have Kr8 : xJ l D k o X 6 61 [(0, .ref (ad 41)), (1, .double r8), (3, .int (xi v3))] [] (wX ad k S) := by
        refine xj_iinc C 2 (L1 := [(3, .int (xi (v3 + 1))), (0, .ref (ad 41)), (1, .double r8)]) dX6_longestWay_61 rfl (by decide) rfl ?_
        refine xj_goto C (tgt := 15) dX6_longestWay_64 (by decide) ?_
        refine xj_loc C [1, 2, 0] (L1 := [(0, .ref (ad 41)), (1, .double r8), (3, .int (xi (v3 + 1)))]) rfl ?_
        exact ih _ _ _ hM K
      clear hM
      have hM := hRr8
      obtain ⟨g9, hM⟩ := xck_some hM
      refine xj_if_eq C (tgt := 61) dX6_longestWay_36 (by decide) g9 (fun c10 => ?_) (fun c10 => ?_)
      · have hM := xit hM c10
        obtain rfl := Option.some.inj hM
        refine xj_loc C [1, 2, 3] (L1 := [(0, .ref (ad 41)), (1, .double v1), (3, .int (xi v3))]) rfl ?_
        exact Kr8
      · have hM := xif hM c10
        refine xj_dload C 0 dX6_longestWay_39 rfl ?_
        refine xj_dconst0 C dX6_longestWay_41 ?_
        refine xj_dcmp C dX6_longestWay_42 ?_
        refine xj_if_lt C (tgt := 61) dX6_longestWay_43 (by decide) (xr_dcmp _ _ _) (fun c11 => ?_) (fun c11 => ?_)
        · have hM := xit hM c11
          obtain rfl := Option.some.inj hM
          refine xj_loc C [1, 2, 3] (L1 := [(0, .ref (ad 41)), (1, .double v1), (3, .int (xi v3))]) rfl ?_
          exact Kr8
        · have hM := xif hM c11
          refine xj_dload_n C 2 dX6_longestWay_46 rfl rfl ?_
          refine xj_dload C 0 dX6_longestWay_47 rfl ?_
          refine xj_ldc2d C (List.mem_of_getElem? (i := 3) rfl) dX6_longestWay_49 ?_
          obtain ⟨g12, hM⟩ := xck_some hM
          refine xj_dadd C g12 dX6_longestWay_52 ?_
          refine xj_ldc2d C (List.mem_of_getElem? (i := 4) rfl) dX6_longestWay_53 ?_
          obtain ⟨g13, hM⟩ := xck_some hM
          refine xj_dadd C g13 dX6_longestWay_56 ?_
          obtain ⟨r14, hRr14, hM⟩ := xbd hM
          refine xj_callS C [.double v1, .double (FP.dadd (FP.dadd r6 (4603804719079489536 : UInt64)) (4598175219545276416 : UInt64))] [] 2 (c_X6_later hRr14) gX6_longestWay_X6_later rfl ⟨rfl, rfl⟩ hv_X6_later ⟨Nat.le_of_ble_eq_true rfl, Nat.le_of_ble_eq_true rfl⟩ rfl (Nat.le_of_ble_eq_true rfl) dX6_longestWay_57 ?_
          refine xj_dstore_n C (L1 := [(1, .double r14), (4, .double r6), (0, .ref (ad 41)), (3, .int (xi v3))]) dX6_longestWay_60 rfl (by decide) rfl ?_
          obtain rfl := Option.some.inj hM
          refine xj_loc C [2, 0, 3] (L1 := [(0, .ref (ad 41)), (1, .double r14), (3, .int (xi v3))]) rfl ?_
          exact Kr8
set_option maxRecDepth 100000 in
set_option maxHeartbeats 4000000 in
theorem j_X6_longestWay_L69 {l : Launch} {D : va_G} {k : Nat → ClassId} {ad : Nat → Nat} {o : xO} {X : xX} (C : xC D k o X cX6_longestWay 6 RX6 wsX6_longestWay (some .double) rmX6_longestWay) (S : xS) : ∀ (n : Nat) (v1 : UInt64) (v3 : Int) (r : UInt64), m_X6_longestWay_L69 S n v1 v3 = some r → (xJ l D k o X 6 93 [(1, .double r)] [] (wX ad k S)) → xJ l D k o X 6 69 [(0, .ref (ad 41)), (1, .double v1), (3, .int (xi v3))] [] (wX ad k S) := by
  intro n
  induction n with
  | zero =>
    intro v1 v3 r hM
    cases hM
  | succ n ih =>
    intro v1 v3 r hM K
    unfold m_X6_longestWay_L69 at hM
    refine xj_iload_n C 2 dX6_longestWay_69 rfl rfl ?_
    refine xj_iconst C dX6_longestWay_70 ?_
    obtain ⟨g16, hM⟩ := xck_some hM
    refine xj_icmp_ge C (tgt := 93) dX6_longestWay_71 (by decide) ⟨g16, (by decide)⟩ (fun c17 => ?_) (fun c17 => ?_)
    · have hM := xit hM c17
      obtain rfl := Option.some.inj hM
      refine xj_loc C [1] (L1 := [(1, .double v1)]) rfl ?_
      exact K
    · have hM := xif hM c17
      refine xj_dload_n C 1 dX6_longestWay_74 rfl rfl ?_
      refine xj_aload_n C 0 dX6_longestWay_75 rfl rfl ?_
      refine xj_bipush C (n := 48) (by decide) dX6_longestWay_76 ?_
      refine xj_iload_n C 2 dX6_longestWay_78 rfl rfl ?_
      refine xj_iadd C dX6_longestWay_79 ?_
      obtain ⟨r18, hRr18, hM⟩ := xbd hM
      refine xj_callV C [.int (xi (48 + v3))] [.double v1] 1 (c_X6_arrival hRr18) gX6_longestWay_X6_arrival rfl ⟨rfl, rfl⟩ hv_X6_arrival ⟨Nat.le_of_ble_eq_true rfl, Nat.le_of_ble_eq_true rfl⟩ 41 (eX_41 ad k _) rfl rfl (Nat.le_of_ble_eq_true rfl) dX6_longestWay_80 ?_
      obtain ⟨r19, hRr19, hM⟩ := xbd hM
      refine xj_callS C [.double v1, .double r18] [] 2 (c_X6_later hRr19) gX6_longestWay_X6_later rfl ⟨rfl, rfl⟩ hv_X6_later ⟨Nat.le_of_ble_eq_true rfl, Nat.le_of_ble_eq_true rfl⟩ rfl (Nat.le_of_ble_eq_true rfl) dX6_longestWay_83 ?_
      refine xj_dstore_n C (L1 := [(1, .double r19), (0, .ref (ad 41)), (3, .int (xi v3))]) dX6_longestWay_86 rfl (by decide) rfl ?_
      refine xj_iinc C 2 (L1 := [(3, .int (xi (v3 + 1))), (1, .double r19), (0, .ref (ad 41))]) dX6_longestWay_87 rfl (by decide) rfl ?_
      refine xj_goto C (tgt := 69) dX6_longestWay_90 (by decide) ?_
      refine xj_loc C [2, 1, 0] (L1 := [(0, .ref (ad 41)), (1, .double r19), (3, .int (xi (v3 + 1)))]) rfl ?_
      exact ih _ _ _ hM K
set_option maxRecDepth 100000 in
set_option maxHeartbeats 4000000 in
theorem c_X6_longestWay {l : Launch} {D : va_G} {k : Nat → ClassId} {ad : Nat → Nat} {S : xS} {res : UInt64 × xS} (hM : m_X6_longestWay S = some res) : xM l yX6_longestWay wsX6_longestWay rmX6_longestWay D k [.ref (ad 41)] (wX ad k S) (some (.double res.1)) (wX ad k res.2) := by
  refine xM_of (ret := (some .double)) (by decide) rfl (Nat.le_of_ble_eq_true rfl) (fun X C => ?_)
  have C : xC D k (xo X D k (some (.double res.1)) (wX ad k res.2)) X cX6_longestWay 6 RX6 wsX6_longestWay (some .double) rmX6_longestWay := C
  show xJ l D k (xo X D k (some (.double res.1)) (wX ad k res.2)) X 6 0 [(0, .ref (ad 41))] [] (wX ad k S)
  unfold m_X6_longestWay at hM
  refine xj_aload_n C 0 dX6_longestWay_0 rfl rfl ?_
  obtain ⟨r1, hRr1, hM⟩ := xbd hM
  refine xj_callV C [] [] 0 (c_X6_timeOutlets hRr1) gX6_longestWay_X6_timeOutlets rfl ⟨rfl, rfl⟩ hv_X6_timeOutlets ⟨Nat.le_of_ble_eq_true rfl, Nat.le_of_ble_eq_true rfl⟩ 41 (eX_41 ad k _) rfl rfl (Nat.le_of_ble_eq_true rfl) dX6_longestWay_1 ?_
  obtain ⟨g2, hM⟩ := xck_some hM
  refine xj_if_ne C (tgt := 11) dX6_longestWay_4 (by decide) g2 (fun c3 => ?_) (fun c3 => ?_)
  · have hM := xif hM c3
    refine xj_dconst0 C dX6_longestWay_11 ?_
    refine xj_dstore_n C (L1 := [(1, .double FP.dconst0), (0, .ref (ad 41))]) dX6_longestWay_12 rfl (by decide) rfl ?_
    refine xj_iconst C dX6_longestWay_13 ?_
    refine xj_istore_n C (L1 := [(3, .int (xi 0)), (1, .double FP.dconst0), (0, .ref (ad 41))]) dX6_longestWay_14 rfl (by decide) rfl ?_
    obtain ⟨r15, hLr15, hM⟩ := xbd hM
    refine xj_loc C [2, 1, 0] (L1 := [(0, .ref (ad 41)), (1, .double FP.dconst0), (3, .int (xi 0))]) rfl ?_
    refine j_X6_longestWay_L15 C r1.2 _ _ _ _ hLr15 ?_
    refine xj_iconst C dX6_longestWay_67 ?_
    refine xj_istore_n C (L1 := [(3, .int (xi 0)), (0, .ref (ad 41)), (1, .double r15)]) dX6_longestWay_68 rfl (by decide) rfl ?_
    obtain ⟨r20, hLr20, hM⟩ := xbd hM
    refine xj_loc C [1, 2, 0] (L1 := [(0, .ref (ad 41)), (1, .double r15), (3, .int (xi 0))]) rfl ?_
    refine j_X6_longestWay_L69 C r1.2 _ _ _ _ hLr20 ?_
    refine xj_dload_n C 0 dX6_longestWay_93 rfl rfl ?_
    obtain rfl := Option.some.inj hM
    exact xj_dret C rfl dX6_longestWay_94
  · have hM := xit hM c3
    refine xj_ldc2d C (List.mem_of_getElem? (i := 1) rfl) dX6_longestWay_7 ?_
    obtain rfl := Option.some.inj hM
    exact xj_dret C rfl dX6_longestWay_10
