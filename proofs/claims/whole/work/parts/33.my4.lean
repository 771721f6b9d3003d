/-! mirrors and contracts (by program: wip/whole/gen.py, mkparts.py) -/
def rmX9_gets : Room := { frames := 4, cells := 0, slots := 0, locals := 93 }
theorem hv_X9_gets : yX9_gets.cls = RX9 ∧ yX9_gets.cls ≠ "java/lang/invoke/MethodHandle" ∧ yX9_gets.cls ≠ "java/lang/invoke/VarHandle" ∧ (parseMethodDescriptor yX9_gets.desc).map (fun d => d.parameters.length) = some 1 := by decide +kernel
def m_X9_gets (p1 : Int) (S : xS) : Option (Int × xS) := xck (0 ≤ p1 ∧ p1 < 48) ((m_X9_behindPin p1 (S 3 p1)).bind (fun r2 => (m_X9_comesFrom r2 S).bind (fun r3 => some (r3.1, r3.2))))
set_option maxRecDepth 100000 in
set_option maxHeartbeats 4000000 in
theorem c_X9_gets {l : Launch} {D : va_G} {k : Nat → ClassId} {ad : Nat → Nat} {S : xS} {p1 : Int} {res : Int × xS} (hM : m_X9_gets p1 S = some res) : xM l yX9_gets wsX9_gets rmX9_gets D k [.ref (ad 24), .int (xi p1)] (wY ad k S) (some (.int (xi res.1))) (wY ad k res.2) := by
  refine xM_of (ret := (some .int)) (by decide) rfl (Nat.le_of_ble_eq_true rfl) (fun X C => ?_)
  have C : xC D k (xo X D k (some (.int (xi res.1))) (wY ad k res.2)) X cX9_gets 2 RX9 wsX9_gets (some .int) rmX9_gets := C
  show xJ l D k (xo X D k (some (.int (xi res.1))) (wY ad k res.2)) X 2 0 [(0, .ref (ad 24)), (1, .int (xi p1))] [] (wY ad k S)
  unfold m_X9_gets at hM
  refine xj_aload_n C 0 dX9_gets_0 rfl rfl ?_
  refine xj_iload_n C 1 dX9_gets_1 rfl rfl ?_
  refine xj_aload_n C 0 dX9_gets_2 rfl rfl ?_
  refine xj_get C (fun _ h => List.mem_cons_of_mem _ (List.mem_append_right _ h)) 24 (eY_24 ad k S) rfl 3 (by decide) (List.mem_of_getElem? (i := 1) rfl) (fun _ _ h => h) rfl dX9_gets_3 ?_
  refine xj_iload_n C 1 dX9_gets_6 rfl rfl ?_
  obtain ⟨g1, hM⟩ := xck_some hM
  refine xj_iald C 3 S 3 (eY_3 ad k S) (Nat.le_of_ble_eq_true rfl) g1 dX9_gets_7 ?_
  obtain ⟨r2, hRr2, hM⟩ := xbd hM
  refine xj_callS C [.int (xi p1), .int (xi (S 3 p1))] [.ref (ad 24)] 2 (c_X9_behindPin hRr2) gX9_gets_X9_behindPin rfl ⟨rfl, rfl⟩ hv_X9_behindPin ⟨Nat.le_of_ble_eq_true rfl, Nat.le_of_ble_eq_true rfl⟩ rfl (Nat.le_of_ble_eq_true rfl) dX9_gets_8 ?_
  obtain ⟨r3, hRr3, hM⟩ := xbd hM
  refine xj_callV C [.int (xi r2)] [] 1 (c_X9_comesFrom hRr3) gX9_gets_X9_comesFrom rfl ⟨rfl, rfl⟩ hv_X9_comesFrom ⟨Nat.le_of_ble_eq_true rfl, Nat.le_of_ble_eq_true rfl⟩ 24 (eY_24 ad k _) rfl rfl (Nat.le_of_ble_eq_true rfl) dX9_gets_11 ?_
  obtain rfl := Option.some.inj hM
  exact xj_iret C rfl dX9_gets_14
def rmX9_pin : Room := { frames := 5, cells := 0, slots := 0, locals := 114 }
theorem hv_X9_pin : yX9_pin.cls = RX9 ∧ yX9_pin.cls ≠ "java/lang/invoke/MethodHandle" ∧ yX9_pin.cls ≠ "java/lang/invoke/VarHandle" ∧ (parseMethodDescriptor yX9_pin.desc).map (fun d => d.parameters.length) = some 2 := by decide +kernel
def m_X9_pin (p1 : Int) (p2 : Int) (S : xS) : Option (Int × xS) := (m_X9_in p1 0 15).bind (fun r1 => xck (xr r1) (if r1 = 0 then some ((-1), S) else (m_X9_in p2 0 2).bind (fun r4 => xck (xr r4) (if r4 = 0 then some ((-1), S) else (m_X9_gets ((3 * p1) + p2) S).bind (fun r7 => some (r7.1, r7.2))))))
set_option maxRecDepth 100000 in
set_option maxHeartbeats 4000000 in
theorem c_X9_pin {l : Launch} {D : va_G} {k : Nat → ClassId} {ad : Nat → Nat} {S : xS} {p1 : Int} {p2 : Int} {res : Int × xS} (hM : m_X9_pin p1 p2 S = some res) : xM l yX9_pin wsX9_pin rmX9_pin D k [.ref (ad 24), .int (xi p1), .int (xi p2)] (wY ad k S) (some (.int (xi res.1))) (wY ad k res.2) := by
  refine xM_of (ret := (some .int)) (by decide) rfl (Nat.le_of_ble_eq_true rfl) (fun X C => ?_)
  have C : xC D k (xo X D k (some (.int (xi res.1))) (wY ad k res.2)) X cX9_pin 3 RX9 wsX9_pin (some .int) rmX9_pin := C
  show xJ l D k (xo X D k (some (.int (xi res.1))) (wY ad k res.2)) X 3 0 [(0, .ref (ad 24)), (1, .int (xi p1)), (2, .int (xi p2))] [] (wY ad k S)
  unfold m_X9_pin at hM
  refine xj_iload_n C 1 dX9_pin_0 rfl rfl ?_
  refine xj_iconst C dX9_pin_1 ?_
  refine xj_bipush C (n := 15) (by decide) dX9_pin_2 ?_
  obtain ⟨r1, hRr1, hM⟩ := xbd hM
  refine xj_callS C [.int (xi p1), .int (xi 0), .int (xi 15)] [] 3 (c_X9_in hRr1) gX9_pin_X9_in rfl ⟨rfl, rfl⟩ hv_X9_in ⟨Nat.le_of_ble_eq_true rfl, Nat.le_of_ble_eq_true rfl⟩ rfl (Nat.le_of_ble_eq_true rfl) dX9_pin_4 ?_
  obtain ⟨g2, hM⟩ := xck_some hM
  refine xj_if_eq C (tgt := 31) dX9_pin_7 (by decide) g2 (fun c3 => ?_) (fun c3 => ?_)
  · have hM := xit hM c3
    refine xj_iconst C dX9_pin_31 ?_
    obtain rfl := Option.some.inj hM
    exact xj_iret C rfl dX9_pin_32
  · have hM := xif hM c3
    refine xj_iload_n C 2 dX9_pin_10 rfl rfl ?_
    refine xj_iconst C dX9_pin_11 ?_
    refine xj_iconst C dX9_pin_12 ?_
    obtain ⟨r4, hRr4, hM⟩ := xbd hM
    refine xj_callS C [.int (xi p2), .int (xi 0), .int (xi 2)] [] 3 (c_X9_in hRr4) gX9_pin_X9_in rfl ⟨rfl, rfl⟩ hv_X9_in ⟨Nat.le_of_ble_eq_true rfl, Nat.le_of_ble_eq_true rfl⟩ rfl (Nat.le_of_ble_eq_true rfl) dX9_pin_13 ?_
    obtain ⟨g5, hM⟩ := xck_some hM
    refine xj_if_eq C (tgt := 31) dX9_pin_16 (by decide) g5 (fun c6 => ?_) (fun c6 => ?_)
    · have hM := xit hM c6
      refine xj_iconst C dX9_pin_31 ?_
      obtain rfl := Option.some.inj hM
      exact xj_iret C rfl dX9_pin_32
    · have hM := xif hM c6
      refine xj_aload_n C 0 dX9_pin_19 rfl rfl ?_
      refine xj_iconst C dX9_pin_20 ?_
      refine xj_iload_n C 1 dX9_pin_21 rfl rfl ?_
      refine xj_imul C dX9_pin_22 ?_
      refine xj_iload_n C 2 dX9_pin_23 rfl rfl ?_
      refine xj_iadd C dX9_pin_24 ?_
      obtain ⟨r7, hRr7, hM⟩ := xbd hM
      refine xj_callV C [.int (xi ((3 * p1) + p2))] [] 1 (c_X9_gets hRr7) gX9_pin_X9_gets rfl ⟨rfl, rfl⟩ hv_X9_gets ⟨Nat.le_of_ble_eq_true rfl, Nat.le_of_ble_eq_true rfl⟩ 24 (eY_24 ad k _) rfl rfl (Nat.le_of_ble_eq_true rfl) dX9_pin_25 ?_
      refine xj_goto C (tgt := 32) dX9_pin_28 (by decide) ?_
      obtain rfl := Option.some.inj hM
      exact xj_iret C rfl dX9_pin_32
def rmX9_outputOf : Room := { frames := 4, cells := 0, slots := 0, locals := 93 }
theorem hv_X9_outputOf : yX9_outputOf.cls = RX9 ∧ yX9_outputOf.cls ≠ "java/lang/invoke/MethodHandle" ∧ yX9_outputOf.cls ≠ "java/lang/invoke/VarHandle" ∧ (parseMethodDescriptor yX9_outputOf.desc).map (fun d => d.parameters.length) = some 1 := by decide +kernel
def m_X9_outputOf (p1 : Int) (S : xS) : Option (Int × xS) := (m_X9_in p1 0 3).bind (fun r1 => xck (xr r1) (if r1 = 0 then some ((-1), S) else (m_X9_outputWire p1).bind (fun r4 => (m_X9_comesFrom r4 S).bind (fun r5 => some (r5.1, r5.2)))))
set_option maxRecDepth 100000 in
set_option maxHeartbeats 4000000 in
theorem c_X9_outputOf {l : Launch} {D : va_G} {k : Nat → ClassId} {ad : Nat → Nat} {S : xS} {p1 : Int} {res : Int × xS} (hM : m_X9_outputOf p1 S = some res) : xM l yX9_outputOf wsX9_outputOf rmX9_outputOf D k [.ref (ad 24), .int (xi p1)] (wY ad k S) (some (.int (xi res.1))) (wY ad k res.2) := by
  refine xM_of (ret := (some .int)) (by decide) rfl (Nat.le_of_ble_eq_true rfl) (fun X C => ?_)
  have C : xC D k (xo X D k (some (.int (xi res.1))) (wY ad k res.2)) X cX9_outputOf 2 RX9 wsX9_outputOf (some .int) rmX9_outputOf := C
  show xJ l D k (xo X D k (some (.int (xi res.1))) (wY ad k res.2)) X 2 0 [(0, .ref (ad 24)), (1, .int (xi p1))] [] (wY ad k S)
  unfold m_X9_outputOf at hM
  refine xj_iload_n C 1 dX9_outputOf_0 rfl rfl ?_
  refine xj_iconst C dX9_outputOf_1 ?_
  refine xj_iconst C dX9_outputOf_2 ?_
  obtain ⟨r1, hRr1, hM⟩ := xbd hM
  refine xj_callS C [.int (xi p1), .int (xi 0), .int (xi 3)] [] 3 (c_X9_in hRr1) gX9_outputOf_X9_in rfl ⟨rfl, rfl⟩ hv_X9_in ⟨Nat.le_of_ble_eq_true rfl, Nat.le_of_ble_eq_true rfl⟩ rfl (Nat.le_of_ble_eq_true rfl) dX9_outputOf_3 ?_
  obtain ⟨g2, hM⟩ := xck_some hM
  refine xj_if_eq C (tgt := 20) dX9_outputOf_6 (by decide) g2 (fun c3 => ?_) (fun c3 => ?_)
  · have hM := xit hM c3
    refine xj_iconst C dX9_outputOf_20 ?_
    obtain rfl := Option.some.inj hM
    exact xj_iret C rfl dX9_outputOf_21
  · have hM := xif hM c3
    refine xj_aload_n C 0 dX9_outputOf_9 rfl rfl ?_
    refine xj_iload_n C 1 dX9_outputOf_10 rfl rfl ?_
    obtain ⟨r4, hRr4, hM⟩ := xbd hM
    refine xj_callS C [.int (xi p1)] [.ref (ad 24)] 1 (c_X9_outputWire hRr4) gX9_outputOf_X9_outputWire rfl ⟨rfl, rfl⟩ hv_X9_outputWire ⟨Nat.le_of_ble_eq_true rfl, Nat.le_of_ble_eq_true rfl⟩ rfl (Nat.le_of_ble_eq_true rfl) dX9_outputOf_11 ?_
    obtain ⟨r5, hRr5, hM⟩ := xbd hM
    refine xj_callV C [.int (xi r4)] [] 1 (c_X9_comesFrom hRr5) gX9_outputOf_X9_comesFrom rfl ⟨rfl, rfl⟩ hv_X9_comesFrom ⟨Nat.le_of_ble_eq_true rfl, Nat.le_of_ble_eq_true rfl⟩ 24 (eY_24 ad k _) rfl rfl (Nat.le_of_ble_eq_true rfl) dX9_outputOf_14 ?_
    refine xj_goto C (tgt := 21) dX9_outputOf_17 (by decide) ?_
    obtain rfl := Option.some.inj hM
    exact xj_iret C rfl dX9_outputOf_21
def rmX9_channels : Room := { frames := 6, cells := 0, slots := 0, locals := 136 }
theorem hv_X9_channels : yX9_channels.cls = RX9 ∧ yX9_channels.cls ≠ "java/lang/invoke/MethodHandle" ∧ yX9_channels.cls ≠ "java/lang/invoke/VarHandle" ∧ (parseMethodDescriptor yX9_channels.desc).map (fun d => d.parameters.length) = some 2 := by decide +kernel
def m_X9_channels (p1 : Int) (p2 : Int) (S : xS) : Option (Int × xS) := (m_X9_pin p1 p2 S).bind (fun r1 => xck (xr r1.1) (if 0 ≤ r1.1 then some ((r1.2 53 0), r1.2) else some (0, r1.2)))
set_option maxRecDepth 100000 in
set_option maxHeartbeats 4000000 in
theorem c_X9_channels {l : Launch} {D : va_G} {k : Nat → ClassId} {ad : Nat → Nat} {S : xS} {p1 : Int} {p2 : Int} {res : Int × xS} (hM : m_X9_channels p1 p2 S = some res) : xM l yX9_channels wsX9_channels rmX9_channels D k [.ref (ad 24), .int (xi p1), .int (xi p2)] (wY ad k S) (some (.int (xi res.1))) (wY ad k res.2) := by
  refine xM_of (ret := (some .int)) (by decide) rfl (Nat.le_of_ble_eq_true rfl) (fun X C => ?_)
  have C : xC D k (xo X D k (some (.int (xi res.1))) (wY ad k res.2)) X cX9_channels 3 RX9 wsX9_channels (some .int) rmX9_channels := C
  show xJ l D k (xo X D k (some (.int (xi res.1))) (wY ad k res.2)) X 3 0 [(0, .ref (ad 24)), (1, .int (xi p1)), (2, .int (xi p2))] [] (wY ad k S)
  unfold m_X9_channels at hM
  refine xj_aload_n C 0 dX9_channels_0 rfl rfl ?_
  refine xj_iload_n C 1 dX9_channels_1 rfl rfl ?_
  refine xj_iload_n C 2 dX9_channels_2 rfl rfl ?_
  obtain ⟨r1, hRr1, hM⟩ := xbd hM
  refine xj_callV C [.int (xi p1), .int (xi p2)] [] 2 (c_X9_pin hRr1) gX9_channels_X9_pin rfl ⟨rfl, rfl⟩ hv_X9_pin ⟨Nat.le_of_ble_eq_true rfl, Nat.le_of_ble_eq_true rfl⟩ 24 (eY_24 ad k _) rfl rfl (Nat.le_of_ble_eq_true rfl) dX9_channels_3 ?_
  obtain ⟨g2, hM⟩ := xck_some hM
  refine xj_if_ge C (tgt := 13) dX9_channels_6 (by decide) g2 (fun c3 => ?_) (fun c3 => ?_)
  · have hM := xit hM c3
    refine xj_aload_n C 0 dX9_channels_13 rfl rfl ?_
    refine xj_get C (v := .int (xi (r1.2 53 0))) (fun _ h => List.mem_cons_of_mem _ (List.mem_append_right _ h)) 24 (eY_24 ad k r1.2) rfl 25 (by decide) (List.mem_of_getElem? (i := 1) rfl) (fun _ _ h => h) rfl dX9_channels_14 ?_
    obtain rfl := Option.some.inj hM
    exact xj_iret C rfl dX9_channels_17
  · have hM := xif hM c3
    refine xj_iconst C dX9_channels_9 ?_
    refine xj_goto C (tgt := 17) dX9_channels_10 (by decide) ?_
    obtain rfl := Option.some.inj hM
    exact xj_iret C rfl dX9_channels_17
def rmX9_arrives : Room := { frames := 0, cells := 0, slots := 0, locals := 0 }
theorem hv_X9_arrives : yX9_arrives.cls = RX9 ∧ yX9_arrives.cls ≠ "java/lang/invoke/MethodHandle" ∧ yX9_arrives.cls ≠ "java/lang/invoke/VarHandle" ∧ (parseMethodDescriptor yX9_arrives.desc).map (fun d => d.parameters.length) = some 1 := by decide +kernel
def m_X9_arrives (p1 : Int) (S : xS) : Option (UInt64) := (xck (xr p1) (if p1 < 16 then xck (0 ≤ p1 ∧ p1 < 16) (some (UInt64.ofNat (S 22 p1).toNat)) else some FP.dconst0)).bind (fun r1 => xck ((FP.dmul (4600427019358961664 : UInt64) (FP.i2d (xi (S 53 0)))) &&& 9223372036854775807 ≤ (9218868437227405312 : UInt64)) (xck ((FP.dadd r1 (FP.dmul (4600427019358961664 : UInt64) (FP.i2d (xi (S 53 0))))) &&& 9223372036854775807 ≤ (9218868437227405312 : UInt64)) (some (FP.dadd r1 (FP.dmul (4600427019358961664 : UInt64) (FP.i2d (xi (S 53 0))))))))
set_option maxRecDepth 100000 in
set_option maxHeartbeats 4000000 in
theorem c_X9_arrives {l : Launch} {D : va_G} {k : Nat → ClassId} {ad : Nat → Nat} {S : xS} {p1 : Int} {res : UInt64} (hM : m_X9_arrives p1 S = some res) : xM l yX9_arrives wsX9_arrives rmX9_arrives D k [.ref (ad 24), .int (xi p1)] (wY ad k S) (some (.double res)) (wY ad k S) := by
  refine xM_of (ret := (some .double)) (by decide) rfl (Nat.le_of_ble_eq_true rfl) (fun X C => ?_)
  have C : xC D k (xo X D k (some (.double res)) (wY ad k S)) X cX9_arrives 4 RX9 wsX9_arrives (some .double) rmX9_arrives := C
  show xJ l D k (xo X D k (some (.double res)) (wY ad k S)) X 4 0 [(0, .ref (ad 24)), (1, .int (xi p1))] [] (wY ad k S)
  unfold m_X9_arrives at hM
  refine xj_iload_n C 1 dX9_arrives_0 rfl rfl ?_
  refine xj_bipush C (n := 16) (by decide) dX9_arrives_1 ?_
  obtain ⟨r1, hRr1, hM⟩ := xbd hM
  have Kr1 : xJ l D k (xo X D k (some (.double res)) (wY ad k S)) X 4 16 [(0, .ref (ad 24))] [.double r1] (wY ad k S) := by
    refine xj_dstore_n C (L1 := [(2, .double r1), (0, .ref (ad 24))]) dX9_arrives_16 rfl (by decide) rfl ?_
    refine xj_dload_n C 0 dX9_arrives_17 rfl rfl ?_
    refine xj_ldc2d C (List.mem_of_getElem? (i := 2) rfl) dX9_arrives_18 ?_
    refine xj_aload_n C 1 dX9_arrives_21 rfl rfl ?_
    refine xj_get C (v := .int (xi (S 53 0))) (fun _ h => List.mem_cons_of_mem _ (List.mem_append_right _ h)) 24 (eY_24 ad k S) rfl 25 (by decide) (List.mem_of_getElem? (i := 3) rfl) (fun _ _ h => h) rfl dX9_arrives_22 ?_
    refine xj_i2d C dX9_arrives_25 ?_
    obtain ⟨g5, hM⟩ := xck_some hM
    refine xj_dmul C g5 dX9_arrives_26 ?_
    obtain ⟨g6, hM⟩ := xck_some hM
    refine xj_dadd C g6 dX9_arrives_27 ?_
    obtain rfl := Option.some.inj hM
    exact xj_dret C rfl dX9_arrives_28
  clear hM
  have hM := hRr1
  obtain ⟨g2, hM⟩ := xck_some hM
  refine xj_icmp_lt C (tgt := 10) dX9_arrives_3 (by decide) ⟨g2, (by decide)⟩ (fun c3 => ?_) (fun c3 => ?_)
  · have hM := xit hM c3
    refine xj_aload_n C 0 dX9_arrives_10 rfl rfl ?_
    refine xj_get C (fun _ h => List.mem_cons_of_mem _ (List.mem_append_right _ h)) 24 (eY_24 ad k S) rfl 26 (by decide) (List.mem_of_getElem? (i := 1) rfl) (fun _ _ h => h) rfl dX9_arrives_11 ?_
    refine xj_iload_n C 1 dX9_arrives_14 rfl rfl ?_
    obtain ⟨g4, hM⟩ := xck_some hM
    refine xj_dald C 22 S 22 (eY_22 ad k S) (Nat.le_of_ble_eq_true rfl) g4 dX9_arrives_15 ?_
    obtain rfl := Option.some.inj hM
    refine xj_loc C [0] (L1 := [(0, .ref (ad 24))]) rfl ?_
    exact Kr1
  · have hM := xif hM c3
    refine xj_dconst0 C dX9_arrives_6 ?_
    refine xj_goto C (tgt := 16) dX9_arrives_7 (by decide) ?_
    obtain rfl := Option.some.inj hM
    refine xj_loc C [0] (L1 := [(0, .ref (ad 24))]) rfl ?_
    exact Kr1
def rmX9_latest : Room := { frames := 5, cells := 0, slots := 0, locals := 114 }
theorem hv_X9_latest : yX9_latest.cls = RX9 ∧ yX9_latest.cls ≠ "java/lang/invoke/MethodHandle" ∧ yX9_latest.cls ≠ "java/lang/invoke/VarHandle" ∧ (parseMethodDescriptor yX9_latest.desc).map (fun d => d.parameters.length) = some 1 := by decide +kernel
def m_X9_latest_L7 (p1 : Int) : Nat → UInt64 → Int → xS → Option (UInt64 × xS)
  | 0, _, _, _ => none
  | n + 1, v2, v4, S => xck (xr v4) (if 3 ≤ v4 then some (v2, S) else (m_X9_gets ((3 * p1) + v4) S).bind (fun r3 => (xck (xr r3.1) (if r3.1 < 0 then some v2 else (m_X9_arrives r3.1 r3.2).bind (fun r7 => ((if (xb_dcmp .l r7 v2) ≤ 0 then some v2 else some r7)).bind (fun r8 => some r8)))).bind (fun r4 => m_X9_latest_L7 p1 n r4 (v4 + 1) r3.2)))
def m_X9_latest (p1 : Int) (S : xS) : Option (UInt64 × xS) := (m_X9_latest_L7 p1 2000 (13830554455654793216 : UInt64) 0 S).bind (fun r10 => some (r10.1, r10.2))
set_option maxRecDepth 100000 in
set_option maxHeartbeats 4000000 in
theorem j_X9_latest_L7 {l : Launch} {D : va_G} {k : Nat → ClassId} {ad : Nat → Nat} {o : xO} {X : xX} (C : xC D k o X cX9_latest 8 RX9 wsX9_latest (some .double) rmX9_latest) (p1 : Int) : ∀ (n : Nat) (v2 : UInt64) (v4 : Int) (S : xS) (r : UInt64 × xS), m_X9_latest_L7 p1 n v2 v4 S = some r → (xJ l D k o X 8 58 [(2, .double r.1)] [] (wY ad k r.2)) → xJ l D k o X 8 7 [(0, .ref (ad 24)), (1, .int (xi p1)), (2, .double v2), (4, .int (xi v4))] [] (wY ad k S) := by
  intro n
  induction n with
  | zero =>
    intro v2 v4 S r hM
    cases hM
  | succ n ih =>
    intro v2 v4 S r hM K
    unfold m_X9_latest_L7 at hM
    refine xj_iload C 3 dX9_latest_7 rfl ?_
    refine xj_iconst C dX9_latest_9 ?_
    obtain ⟨g1, hM⟩ := xck_some hM
    refine xj_icmp_ge C (tgt := 58) dX9_latest_10 (by decide) ⟨g1, (by decide)⟩ (fun c2 => ?_) (fun c2 => ?_)
    · have hM := xit hM c2
      obtain rfl := Option.some.inj hM
      refine xj_loc C [2] (L1 := [(2, .double v2)]) rfl ?_
      exact K
    · have hM := xif hM c2
      refine xj_aload_n C 0 dX9_latest_13 rfl rfl ?_
      refine xj_iconst C dX9_latest_14 ?_
      refine xj_iload_n C 1 dX9_latest_15 rfl rfl ?_
      refine xj_imul C dX9_latest_16 ?_
      refine xj_iload C 3 dX9_latest_17 rfl ?_
      refine xj_iadd C dX9_latest_19 ?_
      obtain ⟨r3, hRr3, hM⟩ := xbd hM
      refine xj_callV C [.int (xi ((3 * p1) + v4))] [] 1 (c_X9_gets hRr3) gX9_latest_X9_gets rfl ⟨rfl, rfl⟩ hv_X9_gets ⟨Nat.le_of_ble_eq_true rfl, Nat.le_of_ble_eq_true rfl⟩ 24 (eY_24 ad k _) rfl rfl (Nat.le_of_ble_eq_true rfl) dX9_latest_20 ?_
      refine xj_istore C (L1 := [(5, .int (xi r3.1)), (0, .ref (ad 24)), (1, .int (xi p1)), (2, .double v2), (4, .int (xi v4))]) dX9_latest_23 (by decide) rfl ?_
      refine xj_iload C 0 dX9_latest_25 rfl ?_
      obtain ⟨r4, hRr4, hM⟩ := xbd hM
      have Kr4 : xJ l D k o X 8 52 [(0, .ref (ad 24)), (1, .int (xi p1)), (2, .double r4), (4, .int (xi v4))] [] (wY ad k r3.2) := by
        refine xj_iinc C 3 (L1 := [(4, .int (xi (v4 + 1))), (0, .ref (ad 24)), (1, .int (xi p1)), (2, .double r4)]) dX9_latest_52 rfl (by decide) rfl ?_
        refine xj_goto C (tgt := 7) dX9_latest_55 (by decide) ?_
        refine xj_loc C [1, 2, 3, 0] (L1 := [(0, .ref (ad 24)), (1, .int (xi p1)), (2, .double r4), (4, .int (xi (v4 + 1)))]) rfl ?_
        exact ih _ _ _ _ hM K
      clear hM
      have hM := hRr4
      obtain ⟨g5, hM⟩ := xck_some hM
      refine xj_if_lt C (tgt := 52) dX9_latest_27 (by decide) g5 (fun c6 => ?_) (fun c6 => ?_)
      · have hM := xit hM c6
        obtain rfl := Option.some.inj hM
        refine xj_loc C [1, 2, 3, 4] (L1 := [(0, .ref (ad 24)), (1, .int (xi p1)), (2, .double v2), (4, .int (xi v4))]) rfl ?_
        exact Kr4
      · have hM := xif hM c6
        refine xj_aload_n C 1 dX9_latest_30 rfl rfl ?_
        refine xj_iload C 0 dX9_latest_31 rfl ?_
        obtain ⟨r7, hRr7, hM⟩ := xbd hM
        refine xj_callV C [.int (xi r3.1)] [] 1 (c_X9_arrives hRr7) gX9_latest_X9_arrives rfl ⟨rfl, rfl⟩ hv_X9_arrives ⟨Nat.le_of_ble_eq_true rfl, Nat.le_of_ble_eq_true rfl⟩ 24 (eY_24 ad k _) rfl rfl (Nat.le_of_ble_eq_true rfl) dX9_latest_33 ?_
        refine xj_dstore C (L1 := [(6, .double r7), (5, .int (xi r3.1)), (0, .ref (ad 24)), (1, .int (xi p1)), (2, .double v2), (4, .int (xi v4))]) dX9_latest_36 (by decide) rfl ?_
        refine xj_dload C 0 dX9_latest_38 rfl ?_
        refine xj_dload_n C 4 dX9_latest_40 rfl rfl ?_
        refine xj_dcmp C dX9_latest_41 ?_
        obtain ⟨r8, hRr8, hM⟩ := xbd hM
        have Kr8 : xJ l D k o X 8 51 [(0, .ref (ad 24)), (1, .int (xi p1)), (4, .int (xi v4))] [.double r8] (wY ad k r3.2) := by
          refine xj_dstore_n C (L1 := [(2, .double r8), (0, .ref (ad 24)), (1, .int (xi p1)), (4, .int (xi v4))]) dX9_latest_51 rfl (by decide) rfl ?_
          obtain rfl := Option.some.inj hM
          refine xj_loc C [1, 2, 0, 3] (L1 := [(0, .ref (ad 24)), (1, .int (xi p1)), (2, .double r8), (4, .int (xi v4))]) rfl ?_
          exact Kr4
        clear hM
        have hM := hRr8
        refine xj_if_le C (tgt := 50) dX9_latest_42 (by decide) (xr_dcmp _ _ _) (fun c9 => ?_) (fun c9 => ?_)
        · have hM := xit hM c9
          refine xj_dload_n C 4 dX9_latest_50 rfl rfl ?_
          obtain rfl := Option.some.inj hM
          refine xj_loc C [2, 3, 5] (L1 := [(0, .ref (ad 24)), (1, .int (xi p1)), (4, .int (xi v4))]) rfl ?_
          exact Kr8
        · have hM := xif hM c9
          refine xj_dload C 0 dX9_latest_45 rfl ?_
          refine xj_goto C (tgt := 51) dX9_latest_47 (by decide) ?_
          obtain rfl := Option.some.inj hM
          refine xj_loc C [2, 3, 5] (L1 := [(0, .ref (ad 24)), (1, .int (xi p1)), (4, .int (xi v4))]) rfl ?_
          exact Kr8
set_option maxRecDepth 100000 in
set_option maxHeartbeats 4000000 in
theorem c_X9_latest {l : Launch} {D : va_G} {k : Nat → ClassId} {ad : Nat → Nat} {S : xS} {p1 : Int} {res : UInt64 × xS} (hM : m_X9_latest p1 S = some res) : xM l yX9_latest wsX9_latest rmX9_latest D k [.ref (ad 24), .int (xi p1)] (wY ad k S) (some (.double res.1)) (wY ad k res.2) := by
  refine xM_of (ret := (some .double)) (by decide) rfl (Nat.le_of_ble_eq_true rfl) (fun X C => ?_)
  have C : xC D k (xo X D k (some (.double res.1)) (wY ad k res.2)) X cX9_latest 8 RX9 wsX9_latest (some .double) rmX9_latest := C
  show xJ l D k (xo X D k (some (.double res.1)) (wY ad k res.2)) X 8 0 [(0, .ref (ad 24)), (1, .int (xi p1))] [] (wY ad k S)
  unfold m_X9_latest at hM
  refine xj_ldc2d C (List.mem_of_getElem? (i := 1) rfl) dX9_latest_0 ?_
  refine xj_dstore_n C (L1 := [(2, .double (13830554455654793216 : UInt64)), (0, .ref (ad 24)), (1, .int (xi p1))]) dX9_latest_3 rfl (by decide) rfl ?_
  refine xj_iconst C dX9_latest_4 ?_
  refine xj_istore C (L1 := [(4, .int (xi 0)), (2, .double (13830554455654793216 : UInt64)), (0, .ref (ad 24)), (1, .int (xi p1))]) dX9_latest_5 (by decide) rfl ?_
  obtain ⟨r10, hLr10, hM⟩ := xbd hM
  refine xj_loc C [2, 3, 1, 0] (L1 := [(0, .ref (ad 24)), (1, .int (xi p1)), (2, .double (13830554455654793216 : UInt64)), (4, .int (xi 0))]) rfl ?_
  refine j_X9_latest_L7 C p1 _ _ _ _ _ hLr10 ?_
  refine xj_dload_n C 0 dX9_latest_58 rfl rfl ?_
  obtain rfl := Option.some.inj hM
  exact xj_dret C rfl dX9_latest_59
def rmX9_settle : Room := { frames := 6, cells := 0, slots := 0, locals := 141 }
theorem hv_X9_settle : yX9_settle.cls = RX9 ∧ yX9_settle.cls ≠ "java/lang/invoke/MethodHandle" ∧ yX9_settle.cls ≠ "java/lang/invoke/VarHandle" ∧ (parseMethodDescriptor yX9_settle.desc).map (fun d => d.parameters.length) = some 0 := by decide +kernel
def m_X9_settle_L4 : Nat → Int → Int → xS → Option (Int × xS)
  | 0, _, _, _ => none
  | n + 1, v1, v2, S => xck (xr v2) (if 16 ≤ v2 then some (v1, S) else (m_X9_latest v2 S).bind (fun r3 => xck (0 ≤ v2 ∧ v2 < 16) ((xck (xr (r3.2 1 v2)) (if (r3.2 1 v2) = 0 then ((if 0 ≤ (xb_dcmp .g r3.1 FP.dconst0) then some r3.1 else some FP.dconst0)).bind (fun r8 => xck ((FP.dadd (4603804719079489536 : UInt64) r8) &&& 9223372036854775807 ≤ (9218868437227405312 : UInt64)) (some (FP.dadd (4603804719079489536 : UInt64) r8))) else some (4602678819172646912 : UInt64))).bind (fun r5 => (xck (xr v1) (if v1 = 0 then (if (xb_dcmp .l r5 (UInt64.ofNat (r3.2 22 v2).toNat)) = 0 then some 0 else some 1) else some 1)).bind (fun r11 => m_X9_settle_L4 n r11 (v2 + 1) (xup r3.2 22 v2 (r5.toNat : Int)))))))
def m_X9_settle (S : xS) : Option (Int × xS) := (m_X9_settle_L4 2000 0 0 S).bind (fun r15 => xck (r15.1 = 0 ∨ r15.1 = 1) (some (r15.1, r15.2)))
set_option maxRecDepth 100000 in
set_option maxHeartbeats 4000000 in
theorem j_X9_settle_L4 {l : Launch} {D : va_G} {k : Nat → ClassId} {ad : Nat → Nat} {o : xO} {X : xX} (C : xC D k o X cX9_settle 7 RX9 wsX9_settle (some .boolean) rmX9_settle) : ∀ (n : Nat) (v1 : Int) (v2 : Int) (S : xS) (r : Int × xS), m_X9_settle_L4 n v1 v2 S = some r → (xJ l D k o X 7 84 [(1, .int (xi r.1))] [] (wY ad k r.2)) → xJ l D k o X 7 4 [(0, .ref (ad 24)), (1, .int (xi v1)), (2, .int (xi v2))] [] (wY ad k S) := by
  intro n
  induction n with
  | zero =>
    intro v1 v2 S r hM
    cases hM
  | succ n ih =>
    intro v1 v2 S r hM K
    unfold m_X9_settle_L4 at hM
    refine xj_iload_n C 2 dX9_settle_4 rfl rfl ?_
    refine xj_bipush C (n := 16) (by decide) dX9_settle_5 ?_
    obtain ⟨g1, hM⟩ := xck_some hM
    refine xj_icmp_ge C (tgt := 84) dX9_settle_7 (by decide) ⟨g1, (by decide)⟩ (fun c2 => ?_) (fun c2 => ?_)
    · have hM := xit hM c2
      obtain rfl := Option.some.inj hM
      refine xj_loc C [1] (L1 := [(1, .int (xi v1))]) rfl ?_
      exact K
    · have hM := xif hM c2
      refine xj_aload_n C 0 dX9_settle_10 rfl rfl ?_
      refine xj_iload_n C 2 dX9_settle_11 rfl rfl ?_
      obtain ⟨r3, hRr3, hM⟩ := xbd hM
      refine xj_callV C [.int (xi v2)] [] 1 (c_X9_latest hRr3) gX9_settle_X9_latest rfl ⟨rfl, rfl⟩ hv_X9_latest ⟨Nat.le_of_ble_eq_true rfl, Nat.le_of_ble_eq_true rfl⟩ 24 (eY_24 ad k _) rfl rfl (Nat.le_of_ble_eq_true rfl) dX9_settle_12 ?_
      refine xj_dstore_n C (L1 := [(3, .double r3.1), (0, .ref (ad 24)), (1, .int (xi v1)), (2, .int (xi v2))]) dX9_settle_15 rfl (by decide) rfl ?_
      refine xj_aload_n C 1 dX9_settle_16 rfl rfl ?_
      refine xj_get C (fun _ h => List.mem_cons_of_mem _ (List.mem_append_right _ h)) 24 (eY_24 ad k r3.2) rfl 1 (by decide) (List.mem_of_getElem? (i := 1) rfl) (fun _ _ h => h) rfl dX9_settle_17 ?_
      refine xj_iload_n C 3 dX9_settle_20 rfl rfl ?_
      obtain ⟨g4, hM⟩ := xck_some hM
      refine xj_zald C 1 r3.2 1 (eY_1 ad k r3.2) (Nat.le_of_ble_eq_true rfl) g4 dX9_settle_21 ?_
      obtain ⟨r5, hRr5, hM⟩ := xbd hM
      have Kr5 : xJ l D k o X 7 46 [(0, .ref (ad 24)), (1, .int (xi v1)), (2, .int (xi v2))] [.double r5] (wY ad k r3.2) := by
        refine xj_dstore C (L1 := [(5, .double r5), (0, .ref (ad 24)), (1, .int (xi v1)), (2, .int (xi v2))]) dX9_settle_46 (by decide) rfl ?_
        refine xj_iload_n C 2 dX9_settle_48 rfl rfl ?_
        obtain ⟨r11, hRr11, hM⟩ := xbd hM
        have Kr11 : xJ l D k o X 7 69 [(0, .ref (ad 24)), (2, .int (xi v2)), (5, .double r5)] [.int (xi r11)] (wY ad k r3.2) := by
          refine xj_istore_n C (L1 := [(1, .int (xi r11)), (0, .ref (ad 24)), (2, .int (xi v2)), (5, .double r5)]) dX9_settle_69 rfl (by decide) rfl ?_
          refine xj_aload_n C 1 dX9_settle_70 rfl rfl ?_
          refine xj_get C (fun _ h => List.mem_cons_of_mem _ (List.mem_append_right _ h)) 24 (eY_24 ad k r3.2) rfl 26 (by decide) (List.mem_of_getElem? (i := 4) rfl) (fun _ _ h => h) rfl dX9_settle_71 ?_
          refine xj_iload_n C 2 dX9_settle_74 rfl rfl ?_
          refine xj_dload C 3 dX9_settle_75 rfl ?_
          refine xj_dast C 22 r3.2 22 (eY_22 ad k r3.2) (Nat.le_of_ble_eq_true rfl) g4 (sY_22 ad k r3.2 v2 r5) dX9_settle_77 ?_
          refine xj_iinc C 2 (L1 := [(2, .int (xi (v2 + 1))), (1, .int (xi r11)), (0, .ref (ad 24)), (5, .double r5)]) dX9_settle_78 rfl (by decide) rfl ?_
          refine xj_goto C (tgt := 4) dX9_settle_81 (by decide) ?_
          refine xj_loc C [2, 1, 0] (L1 := [(0, .ref (ad 24)), (1, .int (xi r11)), (2, .int (xi (v2 + 1)))]) rfl ?_
          exact ih _ _ _ _ hM K
        clear hM
        have hM := hRr11
        obtain ⟨g12, hM⟩ := xck_some hM
        refine xj_if_ne C (tgt := 64) dX9_settle_49 (by decide) g12 (fun c13 => ?_) (fun c13 => ?_)
        · have hM := xif hM c13
          refine xj_iconst C dX9_settle_64 ?_
          refine xj_goto C (tgt := 69) dX9_settle_65 (by decide) ?_
          obtain rfl := Option.some.inj hM
          refine xj_loc C [1, 3, 0] (L1 := [(0, .ref (ad 24)), (2, .int (xi v2)), (5, .double r5)]) rfl ?_
          exact Kr11
        · have hM := xit hM c13
          refine xj_dload C 0 dX9_settle_52 rfl ?_
          refine xj_aload_n C 1 dX9_settle_54 rfl rfl ?_
          refine xj_get C (fun _ h => List.mem_cons_of_mem _ (List.mem_append_right _ h)) 24 (eY_24 ad k r3.2) rfl 26 (by decide) (List.mem_of_getElem? (i := 4) rfl) (fun _ _ h => h) rfl dX9_settle_55 ?_
          refine xj_iload_n C 3 dX9_settle_58 rfl rfl ?_
          refine xj_dald C 22 r3.2 22 (eY_22 ad k r3.2) (Nat.le_of_ble_eq_true rfl) g4 dX9_settle_59 ?_
          refine xj_dcmp C dX9_settle_60 ?_
          refine xj_if_eq C (tgt := 68) dX9_settle_61 (by decide) (xr_dcmp _ _ _) (fun c14 => ?_) (fun c14 => ?_)
          · have hM := xit hM c14
            refine xj_iconst C dX9_settle_68 ?_
            obtain rfl := Option.some.inj hM
            refine xj_loc C [1, 3, 0] (L1 := [(0, .ref (ad 24)), (2, .int (xi v2)), (5, .double r5)]) rfl ?_
            exact Kr11
          · have hM := xif hM c14
            refine xj_iconst C dX9_settle_64 ?_
            refine xj_goto C (tgt := 69) dX9_settle_65 (by decide) ?_
            obtain rfl := Option.some.inj hM
            refine xj_loc C [1, 3, 0] (L1 := [(0, .ref (ad 24)), (2, .int (xi v2)), (5, .double r5)]) rfl ?_
            exact Kr11
      clear hM
      have hM := hRr5
      obtain ⟨g6, hM⟩ := xck_some hM
      refine xj_if_eq C (tgt := 31) dX9_settle_22 (by decide) g6 (fun c7 => ?_) (fun c7 => ?_)
      · have hM := xit hM c7
        refine xj_ldc2d C (List.mem_of_getElem? (i := 3) rfl) dX9_settle_31 ?_
        refine xj_dload_n C 0 dX9_settle_34 rfl rfl ?_
        refine xj_dconst0 C dX9_settle_35 ?_
        refine xj_dcmp C dX9_settle_36 ?_
        obtain ⟨r8, hRr8, hM⟩ := xbd hM
        have Kr8 : xJ l D k o X 7 45 [(0, .ref (ad 24)), (1, .int (xi v1)), (2, .int (xi v2))] [.double r8, .double (4603804719079489536 : UInt64)] (wY ad k r3.2) := by
          obtain ⟨g10, hM⟩ := xck_some hM
          refine xj_dadd C g10 dX9_settle_45 ?_
          obtain rfl := Option.some.inj hM
          exact Kr5
        clear hM
        have hM := hRr8
        refine xj_if_ge C (tgt := 44) dX9_settle_37 (by decide) (xr_dcmp _ _ _) (fun c9 => ?_) (fun c9 => ?_)
        · have hM := xit hM c9
          refine xj_dload_n C 0 dX9_settle_44 rfl rfl ?_
          obtain rfl := Option.some.inj hM
          refine xj_loc C [1, 2, 3] (L1 := [(0, .ref (ad 24)), (1, .int (xi v1)), (2, .int (xi v2))]) rfl ?_
          exact Kr8
        · have hM := xif hM c9
          refine xj_dconst0 C dX9_settle_40 ?_
          refine xj_goto C (tgt := 45) dX9_settle_41 (by decide) ?_
          obtain rfl := Option.some.inj hM
          refine xj_loc C [1, 2, 3] (L1 := [(0, .ref (ad 24)), (1, .int (xi v1)), (2, .int (xi v2))]) rfl ?_
          exact Kr8
      · have hM := xif hM c7
        refine xj_ldc2d C (List.mem_of_getElem? (i := 2) rfl) dX9_settle_25 ?_
        refine xj_goto C (tgt := 46) dX9_settle_28 (by decide) ?_
        obtain rfl := Option.some.inj hM
        refine xj_loc C [1, 2, 3] (L1 := [(0, .ref (ad 24)), (1, .int (xi v1)), (2, .int (xi v2))]) rfl ?_
        exact Kr5
set_option maxRecDepth 100000 in
set_option maxHeartbeats 4000000 in
theorem c_X9_settle {l : Launch} {D : va_G} {k : Nat → ClassId} {ad : Nat → Nat} {S : xS} {res : Int × xS} (hM : m_X9_settle S = some res) : xM l yX9_settle wsX9_settle rmX9_settle D k [.ref (ad 24)] (wY ad k S) (some (.int (xi res.1))) (wY ad k res.2) := by
  refine xM_of (ret := (some .boolean)) (by decide) rfl (Nat.le_of_ble_eq_true rfl) (fun X C => ?_)
  have C : xC D k (xo X D k (some (.int (xi res.1))) (wY ad k res.2)) X cX9_settle 7 RX9 wsX9_settle (some .boolean) rmX9_settle := C
  show xJ l D k (xo X D k (some (.int (xi res.1))) (wY ad k res.2)) X 7 0 [(0, .ref (ad 24))] [] (wY ad k S)
  unfold m_X9_settle at hM
  refine xj_iconst C dX9_settle_0 ?_
  refine xj_istore_n C (L1 := [(1, .int (xi 0)), (0, .ref (ad 24))]) dX9_settle_1 rfl (by decide) rfl ?_
  refine xj_iconst C dX9_settle_2 ?_
  refine xj_istore_n C (L1 := [(2, .int (xi 0)), (1, .int (xi 0)), (0, .ref (ad 24))]) dX9_settle_3 rfl (by decide) rfl ?_
  obtain ⟨r15, hLr15, hM⟩ := xbd hM
  refine xj_loc C [2, 1, 0] (L1 := [(0, .ref (ad 24)), (1, .int (xi 0)), (2, .int (xi 0))]) rfl ?_
  refine j_X9_settle_L4 C _ _ _ _ _ hLr15 ?_
  refine xj_iload_n C 0 dX9_settle_84 rfl rfl ?_
  obtain ⟨g16, hM⟩ := xck_some hM
  obtain rfl := Option.some.inj hM
  exact xj_zret g16 C rfl dX9_settle_85
def rmX9_longest : Room := { frames := 7, cells := 0, slots := 0, locals := 167 }
theorem hv_X9_longest : yX9_longest.cls = RX9 ∧ yX9_longest.cls ≠ "java/lang/invoke/MethodHandle" ∧ yX9_longest.cls ≠ "java/lang/invoke/VarHandle" ∧ (parseMethodDescriptor yX9_longest.desc).map (fun d => d.parameters.length) = some 0 := by decide +kernel
def m_X9_longest_L2 : Nat → Int → xS → Option (xS)
  | 0, _, _ => none
  | n + 1, v1, S => xck (xr v1) (if 16 ≤ v1 then some S else xck (0 ≤ v1 ∧ v1 < 16) (m_X9_longest_L2 n (v1 + 1) (xup S 22 v1 (FP.dconst0.toNat : Int))))
def m_X9_longest_L25 : Nat → Int → Int → xS → Option (Int × xS)
  | 0, _, _, _ => none
  | n + 1, v1, v2, S => xck (xr v2) (if 18 ≤ v2 then some (v1, S) else xck (xr v1) (if v1 = 0 then some (v1, S) else (m_X9_settle S).bind (fun r9 => m_X9_longest_L25 n r9.1 (v2 + 1) r9.2)))
def m_X9_longest_L59 : Nat → UInt64 → Int → xS → Option (UInt64 × xS)
  | 0, _, _, _ => none
  | n + 1, v2, v4, S => xck (xr v4) (if 16 ≤ v4 then some (v2, S) else (m_X9_latest v4 S).bind (fun r15 => xck (0 ≤ v4 ∧ v4 < 16) ((xck (xr (r15.2 1 v4)) (if (r15.2 1 v4) = 0 then some v2 else (if (xb_dcmp .l r15.1 FP.dconst0) < 0 then some v2 else xck ((FP.dadd r15.1 (4603804719079489536 : UInt64)) &&& 9223372036854775807 ≤ (9218868437227405312 : UInt64)) (xck ((FP.dadd (FP.dadd r15.1 (4603804719079489536 : UInt64)) (4598175219545276416 : UInt64)) &&& 9223372036854775807 ≤ (9218868437227405312 : UInt64)) ((if (xb_dcmp .l (FP.dadd (FP.dadd r15.1 (4603804719079489536 : UInt64)) (4598175219545276416 : UInt64)) v2) ≤ 0 then some v2 else some (FP.dadd (FP.dadd r15.1 (4603804719079489536 : UInt64)) (4598175219545276416 : UInt64)))))))).bind (fun r17 => m_X9_longest_L59 n r17 (v4 + 1) r15.2))))
def m_X9_longest_L126 : Nat → UInt64 → Int → xS → Option (UInt64 × xS)
  | 0, _, _, _ => none
  | n + 1, v2, v4, S => xck (xr v4) (if 4 ≤ v4 then some (v2, S) else (m_X9_outputOf v4 S).bind (fun r27 => (xck (xr r27.1) (if r27.1 < 0 then some v2 else (m_X9_arrives r27.1 r27.2).bind (fun r31 => ((if (xb_dcmp .l r31 v2) ≤ 0 then some v2 else some r31)).bind (fun r32 => some r32)))).bind (fun r28 => m_X9_longest_L126 n r28 (v4 + 1) r27.2)))
def m_X9_longest (S : xS) : Option (UInt64 × xS) := (m_X9_longest_L2 2000 0 S).bind (fun r4 => (m_X9_longest_L25 2000 1 0 r4).bind (fun r10 => xck (xr r10.1) (if r10.1 = 0 then (m_X9_longest_L59 2000 FP.dconst0 0 r10.2).bind (fun r24 => (m_X9_longest_L126 2000 r24.1 0 r24.2).bind (fun r34 => some (r34.1, r34.2))) else some ((13830554455654793216 : UInt64), r10.2))))
set_option maxRecDepth 100000 in
set_option maxHeartbeats 4000000 in
theorem j_X9_longest_L2 {l : Launch} {D : va_G} {k : Nat → ClassId} {ad : Nat → Nat} {o : xO} {X : xX} (C : xC D k o X cX9_longest 8 RX9 wsX9_longest (some .double) rmX9_longest) : ∀ (n : Nat) (v1 : Int) (S : xS) (r : xS), m_X9_longest_L2 n v1 S = some r → (xJ l D k o X 8 21 [(0, .ref (ad 24))] [] (wY ad k r)) → xJ l D k o X 8 2 [(0, .ref (ad 24)), (1, .int (xi v1))] [] (wY ad k S) := by
  intro n
  induction n with
  | zero =>
    intro v1 S r hM
    cases hM
  | succ n ih =>
    intro v1 S r hM K
    unfold m_X9_longest_L2 at hM
    refine xj_iload_n C 1 dX9_longest_2 rfl rfl ?_
    refine xj_bipush C (n := 16) (by decide) dX9_longest_3 ?_
    obtain ⟨g1, hM⟩ := xck_some hM
    refine xj_icmp_ge C (tgt := 21) dX9_longest_5 (by decide) ⟨g1, (by decide)⟩ (fun c2 => ?_) (fun c2 => ?_)
    · have hM := xit hM c2
      obtain rfl := Option.some.inj hM
      refine xj_loc C [0] (L1 := [(0, .ref (ad 24))]) rfl ?_
      exact K
    · have hM := xif hM c2
      refine xj_aload_n C 0 dX9_longest_8 rfl rfl ?_
      refine xj_get C (fun _ h => List.mem_cons_of_mem _ (List.mem_append_right _ h)) 24 (eY_24 ad k S) rfl 26 (by decide) (List.mem_of_getElem? (i := 1) rfl) (fun _ _ h => h) rfl dX9_longest_9 ?_
      refine xj_iload_n C 1 dX9_longest_12 rfl rfl ?_
      refine xj_dconst0 C dX9_longest_13 ?_
      obtain ⟨g3, hM⟩ := xck_some hM
      refine xj_dast C 22 S 22 (eY_22 ad k S) (Nat.le_of_ble_eq_true rfl) g3 (sY_22 ad k S v1 FP.dconst0) dX9_longest_14 ?_
      refine xj_iinc C 1 (L1 := [(1, .int (xi (v1 + 1))), (0, .ref (ad 24))]) dX9_longest_15 rfl (by decide) rfl ?_
      refine xj_goto C (tgt := 2) dX9_longest_18 (by decide) ?_
      refine xj_loc C [1, 0] (L1 := [(0, .ref (ad 24)), (1, .int (xi (v1 + 1)))]) rfl ?_
      exact ih _ _ _ hM K
set_option maxRecDepth 100000 in
set_option maxHeartbeats 4000000 in
theorem j_X9_longest_L25 {l : Launch} {D : va_G} {k : Nat → ClassId} {ad : Nat → Nat} {o : xO} {X : xX} (C : xC D k o X cX9_longest 8 RX9 wsX9_longest (some .double) rmX9_longest) : ∀ (n : Nat) (v1 : Int) (v2 : Int) (S : xS) (r : Int × xS), m_X9_longest_L25 n v1 v2 S = some r → (xJ l D k o X 8 46 [(0, .ref (ad 24)), (1, .int (xi r.1))] [] (wY ad k r.2)) → xJ l D k o X 8 25 [(0, .ref (ad 24)), (1, .int (xi v1)), (2, .int (xi v2))] [] (wY ad k S) := by
  intro n
  induction n with
  | zero =>
    intro v1 v2 S r hM
    cases hM
  | succ n ih =>
    intro v1 v2 S r hM K
    unfold m_X9_longest_L25 at hM
    refine xj_iload_n C 2 dX9_longest_25 rfl rfl ?_
    refine xj_bipush C (n := 18) (by decide) dX9_longest_26 ?_
    obtain ⟨g5, hM⟩ := xck_some hM
    refine xj_icmp_ge C (tgt := 46) dX9_longest_28 (by decide) ⟨g5, (by decide)⟩ (fun c6 => ?_) (fun c6 => ?_)
    · have hM := xit hM c6
      obtain rfl := Option.some.inj hM
      refine xj_loc C [0, 1] (L1 := [(0, .ref (ad 24)), (1, .int (xi v1))]) rfl ?_
      exact K
    · have hM := xif hM c6
      refine xj_iload_n C 1 dX9_longest_31 rfl rfl ?_
      obtain ⟨g7, hM⟩ := xck_some hM
      refine xj_if_eq C (tgt := 46) dX9_longest_32 (by decide) g7 (fun c8 => ?_) (fun c8 => ?_)
      · have hM := xit hM c8
        obtain rfl := Option.some.inj hM
        refine xj_loc C [0, 1] (L1 := [(0, .ref (ad 24)), (1, .int (xi v1))]) rfl ?_
        exact K
      · have hM := xif hM c8
        refine xj_aload_n C 0 dX9_longest_35 rfl rfl ?_
        obtain ⟨r9, hRr9, hM⟩ := xbd hM
        refine xj_callV C [] [] 0 (c_X9_settle hRr9) gX9_longest_X9_settle rfl ⟨rfl, rfl⟩ hv_X9_settle ⟨Nat.le_of_ble_eq_true rfl, Nat.le_of_ble_eq_true rfl⟩ 24 (eY_24 ad k _) rfl rfl (Nat.le_of_ble_eq_true rfl) dX9_longest_36 ?_
        refine xj_istore_n C (L1 := [(1, .int (xi r9.1)), (0, .ref (ad 24)), (2, .int (xi v2))]) dX9_longest_39 rfl (by decide) rfl ?_
        refine xj_iinc C 2 (L1 := [(2, .int (xi (v2 + 1))), (1, .int (xi r9.1)), (0, .ref (ad 24))]) dX9_longest_40 rfl (by decide) rfl ?_
        refine xj_goto C (tgt := 25) dX9_longest_43 (by decide) ?_
        refine xj_loc C [2, 1, 0] (L1 := [(0, .ref (ad 24)), (1, .int (xi r9.1)), (2, .int (xi (v2 + 1)))]) rfl ?_
        exact ih _ _ _ _ hM K
set_option maxRecDepth 100000 in
set_option maxHeartbeats 4000000 in
theorem j_X9_longest_L59 {l : Launch} {D : va_G} {k : Nat → ClassId} {ad : Nat → Nat} {o : xO} {X : xX} (C : xC D k o X cX9_longest 8 RX9 wsX9_longest (some .double) rmX9_longest) : ∀ (n : Nat) (v2 : UInt64) (v4 : Int) (S : xS) (r : UInt64 × xS), m_X9_longest_L59 n v2 v4 S = some r → (xJ l D k o X 8 123 [(0, .ref (ad 24)), (2, .double r.1)] [] (wY ad k r.2)) → xJ l D k o X 8 59 [(0, .ref (ad 24)), (2, .double v2), (4, .int (xi v4))] [] (wY ad k S) := by
  intro n
  induction n with
  | zero =>
    intro v2 v4 S r hM
    cases hM
  | succ n ih =>
    intro v2 v4 S r hM K
    unfold m_X9_longest_L59 at hM
    refine xj_iload C 2 dX9_longest_59 rfl ?_
    refine xj_bipush C (n := 16) (by decide) dX9_longest_61 ?_
    obtain ⟨g13, hM⟩ := xck_some hM
    refine xj_icmp_ge C (tgt := 123) dX9_longest_63 (by decide) ⟨g13, (by decide)⟩ (fun c14 => ?_) (fun c14 => ?_)
    · have hM := xit hM c14
      obtain rfl := Option.some.inj hM
      refine xj_loc C [0, 1] (L1 := [(0, .ref (ad 24)), (2, .double v2)]) rfl ?_
      exact K
    · have hM := xif hM c14
      refine xj_aload_n C 0 dX9_longest_66 rfl rfl ?_
      refine xj_iload C 2 dX9_longest_67 rfl ?_
      obtain ⟨r15, hRr15, hM⟩ := xbd hM
      refine xj_callV C [.int (xi v4)] [] 1 (c_X9_latest hRr15) gX9_longest_X9_latest rfl ⟨rfl, rfl⟩ hv_X9_latest ⟨Nat.le_of_ble_eq_true rfl, Nat.le_of_ble_eq_true rfl⟩ 24 (eY_24 ad k _) rfl rfl (Nat.le_of_ble_eq_true rfl) dX9_longest_69 ?_
      refine xj_dstore C (L1 := [(5, .double r15.1), (0, .ref (ad 24)), (2, .double v2), (4, .int (xi v4))]) dX9_longest_72 (by decide) rfl ?_
      refine xj_aload_n C 1 dX9_longest_74 rfl rfl ?_
      refine xj_get C (fun _ h => List.mem_cons_of_mem _ (List.mem_append_right _ h)) 24 (eY_24 ad k r15.2) rfl 1 (by decide) (List.mem_of_getElem? (i := 3) rfl) (fun _ _ h => h) rfl dX9_longest_75 ?_
      refine xj_iload C 3 dX9_longest_78 rfl ?_
      obtain ⟨g16, hM⟩ := xck_some hM
      refine xj_zald C 1 r15.2 1 (eY_1 ad k r15.2) (Nat.le_of_ble_eq_true rfl) g16 dX9_longest_80 ?_
      obtain ⟨r17, hRr17, hM⟩ := xbd hM
      have Kr17 : xJ l D k o X 8 117 [(0, .ref (ad 24)), (2, .double r17), (4, .int (xi v4))] [] (wY ad k r15.2) := by
        refine xj_iinc C 2 (L1 := [(4, .int (xi (v4 + 1))), (0, .ref (ad 24)), (2, .double r17)]) dX9_longest_117 rfl (by decide) rfl ?_
        refine xj_goto C (tgt := 59) dX9_longest_120 (by decide) ?_
        refine xj_loc C [1, 2, 0] (L1 := [(0, .ref (ad 24)), (2, .double r17), (4, .int (xi (v4 + 1)))]) rfl ?_
        exact ih _ _ _ _ hM K
      clear hM
      have hM := hRr17
      obtain ⟨g18, hM⟩ := xck_some hM
      refine xj_if_eq C (tgt := 117) dX9_longest_81 (by decide) g18 (fun c19 => ?_) (fun c19 => ?_)
      · have hM := xit hM c19
        obtain rfl := Option.some.inj hM
        refine xj_loc C [1, 2, 3] (L1 := [(0, .ref (ad 24)), (2, .double v2), (4, .int (xi v4))]) rfl ?_
        exact Kr17
      · have hM := xif hM c19
        refine xj_dload C 0 dX9_longest_84 rfl ?_
        refine xj_dconst0 C dX9_longest_86 ?_
        refine xj_dcmp C dX9_longest_87 ?_
        refine xj_if_lt C (tgt := 117) dX9_longest_88 (by decide) (xr_dcmp _ _ _) (fun c20 => ?_) (fun c20 => ?_)
        · have hM := xit hM c20
          obtain rfl := Option.some.inj hM
          refine xj_loc C [1, 2, 3] (L1 := [(0, .ref (ad 24)), (2, .double v2), (4, .int (xi v4))]) rfl ?_
          exact Kr17
        · have hM := xif hM c20
          refine xj_dload C 0 dX9_longest_91 rfl ?_
          refine xj_ldc2d C (List.mem_of_getElem? (i := 4) rfl) dX9_longest_93 ?_
          obtain ⟨g21, hM⟩ := xck_some hM
          refine xj_dadd C g21 dX9_longest_96 ?_
          refine xj_ldc2d C (List.mem_of_getElem? (i := 5) rfl) dX9_longest_97 ?_
          obtain ⟨g22, hM⟩ := xck_some hM
          refine xj_dadd C g22 dX9_longest_100 ?_
          refine xj_dload_n C 2 dX9_longest_101 rfl rfl ?_
          refine xj_dcmp C dX9_longest_102 ?_
          refine xj_if_le C (tgt := 117) dX9_longest_103 (by decide) (xr_dcmp _ _ _) (fun c23 => ?_) (fun c23 => ?_)
          · have hM := xit hM c23
            obtain rfl := Option.some.inj hM
            refine xj_loc C [1, 2, 3] (L1 := [(0, .ref (ad 24)), (2, .double v2), (4, .int (xi v4))]) rfl ?_
            exact Kr17
          · have hM := xif hM c23
            refine xj_dload C 0 dX9_longest_106 rfl ?_
            refine xj_ldc2d C (List.mem_of_getElem? (i := 4) rfl) dX9_longest_108 ?_
            refine xj_dadd C g21 dX9_longest_111 ?_
            refine xj_ldc2d C (List.mem_of_getElem? (i := 5) rfl) dX9_longest_112 ?_
            refine xj_dadd C g22 dX9_longest_115 ?_
            refine xj_dstore_n C (L1 := [(2, .double (FP.dadd (FP.dadd r15.1 (4603804719079489536 : UInt64)) (4598175219545276416 : UInt64))), (5, .double r15.1), (0, .ref (ad 24)), (4, .int (xi v4))]) dX9_longest_116 rfl (by decide) rfl ?_
            obtain rfl := Option.some.inj hM
            refine xj_loc C [2, 0, 3] (L1 := [(0, .ref (ad 24)), (2, .double (FP.dadd (FP.dadd r15.1 (4603804719079489536 : UInt64)) (4598175219545276416 : UInt64))), (4, .int (xi v4))]) rfl ?_
            exact Kr17
set_option maxRecDepth 100000 in
set_option maxHeartbeats 4000000 in
theorem j_X9_longest_L126 {l : Launch} {D : va_G} {k : Nat → ClassId} {ad : Nat → Nat} {o : xO} {X : xX} (C : xC D k o X cX9_longest 8 RX9 wsX9_longest (some .double) rmX9_longest) : ∀ (n : Nat) (v2 : UInt64) (v4 : Int) (S : xS) (r : UInt64 × xS), m_X9_longest_L126 n v2 v4 S = some r → (xJ l D k o X 8 173 [(2, .double r.1)] [] (wY ad k r.2)) → xJ l D k o X 8 126 [(0, .ref (ad 24)), (2, .double v2), (4, .int (xi v4))] [] (wY ad k S) := by
  intro n
  induction n with
  | zero =>
    intro v2 v4 S r hM
    cases hM
  | succ n ih =>
    intro v2 v4 S r hM K
    unfold m_X9_longest_L126 at hM
    refine xj_iload C 2 dX9_longest_126 rfl ?_
    refine xj_iconst C dX9_longest_128 ?_
    obtain ⟨g25, hM⟩ := xck_some hM
    refine xj_icmp_ge C (tgt := 173) dX9_longest_129 (by decide) ⟨g25, (by decide)⟩ (fun c26 => ?_) (fun c26 => ?_)
    · have hM := xit hM c26
      obtain rfl := Option.some.inj hM
      refine xj_loc C [1] (L1 := [(2, .double v2)]) rfl ?_
      exact K
    · have hM := xif hM c26
      refine xj_aload_n C 0 dX9_longest_132 rfl rfl ?_
      refine xj_iload C 2 dX9_longest_133 rfl ?_
      obtain ⟨r27, hRr27, hM⟩ := xbd hM
      refine xj_callV C [.int (xi v4)] [] 1 (c_X9_outputOf hRr27) gX9_longest_X9_outputOf rfl ⟨rfl, rfl⟩ hv_X9_outputOf ⟨Nat.le_of_ble_eq_true rfl, Nat.le_of_ble_eq_true rfl⟩ 24 (eY_24 ad k _) rfl rfl (Nat.le_of_ble_eq_true rfl) dX9_longest_135 ?_
      refine xj_istore C (L1 := [(5, .int (xi r27.1)), (0, .ref (ad 24)), (2, .double v2), (4, .int (xi v4))]) dX9_longest_138 (by decide) rfl ?_
      refine xj_iload C 0 dX9_longest_140 rfl ?_
      obtain ⟨r28, hRr28, hM⟩ := xbd hM
      have Kr28 : xJ l D k o X 8 167 [(0, .ref (ad 24)), (2, .double r28), (4, .int (xi v4))] [] (wY ad k r27.2) := by
        refine xj_iinc C 2 (L1 := [(4, .int (xi (v4 + 1))), (0, .ref (ad 24)), (2, .double r28)]) dX9_longest_167 rfl (by decide) rfl ?_
        refine xj_goto C (tgt := 126) dX9_longest_170 (by decide) ?_
        refine xj_loc C [1, 2, 0] (L1 := [(0, .ref (ad 24)), (2, .double r28), (4, .int (xi (v4 + 1)))]) rfl ?_
        exact ih _ _ _ _ hM K
      clear hM
      have hM := hRr28
      obtain ⟨g29, hM⟩ := xck_some hM
      refine xj_if_lt C (tgt := 167) dX9_longest_142 (by decide) g29 (fun c30 => ?_) (fun c30 => ?_)
      · have hM := xit hM c30
        obtain rfl := Option.some.inj hM
        refine xj_loc C [1, 2, 3] (L1 := [(0, .ref (ad 24)), (2, .double v2), (4, .int (xi v4))]) rfl ?_
        exact Kr28
      · have hM := xif hM c30
        refine xj_aload_n C 1 dX9_longest_145 rfl rfl ?_
        refine xj_iload C 0 dX9_longest_146 rfl ?_
        obtain ⟨r31, hRr31, hM⟩ := xbd hM
        refine xj_callV C [.int (xi r27.1)] [] 1 (c_X9_arrives hRr31) gX9_longest_X9_arrives rfl ⟨rfl, rfl⟩ hv_X9_arrives ⟨Nat.le_of_ble_eq_true rfl, Nat.le_of_ble_eq_true rfl⟩ 24 (eY_24 ad k _) rfl rfl (Nat.le_of_ble_eq_true rfl) dX9_longest_148 ?_
        refine xj_dstore C (L1 := [(6, .double r31), (5, .int (xi r27.1)), (0, .ref (ad 24)), (2, .double v2), (4, .int (xi v4))]) dX9_longest_151 (by decide) rfl ?_
        refine xj_dload C 0 dX9_longest_153 rfl ?_
        refine xj_dload_n C 3 dX9_longest_155 rfl rfl ?_
        refine xj_dcmp C dX9_longest_156 ?_
        obtain ⟨r32, hRr32, hM⟩ := xbd hM
        have Kr32 : xJ l D k o X 8 166 [(0, .ref (ad 24)), (4, .int (xi v4))] [.double r32] (wY ad k r27.2) := by
          refine xj_dstore_n C (L1 := [(2, .double r32), (0, .ref (ad 24)), (4, .int (xi v4))]) dX9_longest_166 rfl (by decide) rfl ?_
          obtain rfl := Option.some.inj hM
          refine xj_loc C [1, 0, 2] (L1 := [(0, .ref (ad 24)), (2, .double r32), (4, .int (xi v4))]) rfl ?_
          exact Kr28
        clear hM
        have hM := hRr32
        refine xj_if_le C (tgt := 165) dX9_longest_157 (by decide) (xr_dcmp _ _ _) (fun c33 => ?_) (fun c33 => ?_)
        · have hM := xit hM c33
          refine xj_dload_n C 3 dX9_longest_165 rfl rfl ?_
          obtain rfl := Option.some.inj hM
          refine xj_loc C [2, 4] (L1 := [(0, .ref (ad 24)), (4, .int (xi v4))]) rfl ?_
          exact Kr32
        · have hM := xif hM c33
          refine xj_dload C 0 dX9_longest_160 rfl ?_
          refine xj_goto C (tgt := 166) dX9_longest_162 (by decide) ?_
          obtain rfl := Option.some.inj hM
          refine xj_loc C [2, 4] (L1 := [(0, .ref (ad 24)), (4, .int (xi v4))]) rfl ?_
          exact Kr32
set_option maxRecDepth 100000 in
set_option maxHeartbeats 4000000 in
theorem c_X9_longest {l : Launch} {D : va_G} {k : Nat → ClassId} {ad : Nat → Nat} {S : xS} {res : UInt64 × xS} (hM : m_X9_longest S = some res) : xM l yX9_longest wsX9_longest rmX9_longest D k [.ref (ad 24)] (wY ad k S) (some (.double res.1)) (wY ad k res.2) := by
  refine xM_of (ret := (some .double)) (by decide) rfl (Nat.le_of_ble_eq_true rfl) (fun X C => ?_)
  have C : xC D k (xo X D k (some (.double res.1)) (wY ad k res.2)) X cX9_longest 8 RX9 wsX9_longest (some .double) rmX9_longest := C
  show xJ l D k (xo X D k (some (.double res.1)) (wY ad k res.2)) X 8 0 [(0, .ref (ad 24))] [] (wY ad k S)
  unfold m_X9_longest at hM
  refine xj_iconst C dX9_longest_0 ?_
  refine xj_istore_n C (L1 := [(1, .int (xi 0)), (0, .ref (ad 24))]) dX9_longest_1 rfl (by decide) rfl ?_
  obtain ⟨r4, hLr4, hM⟩ := xbd hM
  refine xj_loc C [1, 0] (L1 := [(0, .ref (ad 24)), (1, .int (xi 0))]) rfl ?_
  refine j_X9_longest_L2 C _ _ _ _ hLr4 ?_
  refine xj_iconst C dX9_longest_21 ?_
  refine xj_istore_n C (L1 := [(1, .int (xi 1)), (0, .ref (ad 24))]) dX9_longest_22 rfl (by decide) rfl ?_
  refine xj_iconst C dX9_longest_23 ?_
  refine xj_istore_n C (L1 := [(2, .int (xi 0)), (1, .int (xi 1)), (0, .ref (ad 24))]) dX9_longest_24 rfl (by decide) rfl ?_
  obtain ⟨r10, hLr10, hM⟩ := xbd hM
  refine xj_loc C [2, 1, 0] (L1 := [(0, .ref (ad 24)), (1, .int (xi 1)), (2, .int (xi 0))]) rfl ?_
  refine j_X9_longest_L25 C _ _ _ _ _ hLr10 ?_
  refine xj_iload_n C 1 dX9_longest_46 rfl rfl ?_
  obtain ⟨g11, hM⟩ := xck_some hM
  refine xj_if_eq C (tgt := 54) dX9_longest_47 (by decide) g11 (fun c12 => ?_) (fun c12 => ?_)
  · have hM := xit hM c12
    refine xj_dconst0 C dX9_longest_54 ?_
    refine xj_dstore_n C (L1 := [(2, .double FP.dconst0), (0, .ref (ad 24)), (1, .int (xi r10.1))]) dX9_longest_55 rfl (by decide) rfl ?_
    refine xj_iconst C dX9_longest_56 ?_
    refine xj_istore C (L1 := [(4, .int (xi 0)), (2, .double FP.dconst0), (0, .ref (ad 24)), (1, .int (xi r10.1))]) dX9_longest_57 (by decide) rfl ?_
    obtain ⟨r24, hLr24, hM⟩ := xbd hM
    refine xj_loc C [2, 1, 0] (L1 := [(0, .ref (ad 24)), (2, .double FP.dconst0), (4, .int (xi 0))]) rfl ?_
    refine j_X9_longest_L59 C _ _ _ _ _ hLr24 ?_
    refine xj_iconst C dX9_longest_123 ?_
    refine xj_istore C (L1 := [(4, .int (xi 0)), (0, .ref (ad 24)), (2, .double r24.1)]) dX9_longest_124 (by decide) rfl ?_
    obtain ⟨r34, hLr34, hM⟩ := xbd hM
    refine xj_loc C [1, 2, 0] (L1 := [(0, .ref (ad 24)), (2, .double r24.1), (4, .int (xi 0))]) rfl ?_
    refine j_X9_longest_L126 C _ _ _ _ _ hLr34 ?_
    refine xj_dload_n C 0 dX9_longest_173 rfl rfl ?_
    obtain rfl := Option.some.inj hM
    exact xj_dret C rfl dX9_longest_174
  · have hM := xif hM c12
    refine xj_ldc2d C (List.mem_of_getElem? (i := 2) rfl) dX9_longest_50 ?_
    obtain rfl := Option.some.inj hM
    exact xj_dret C rfl dX9_longest_53
def rmX9_slack : Room := { frames := 8, cells := 0, slots := 0, locals := 194 }
theorem hv_X9_slack : yX9_slack.cls = RX9 ∧ yX9_slack.cls ≠ "java/lang/invoke/MethodHandle" ∧ yX9_slack.cls ≠ "java/lang/invoke/VarHandle" ∧ (parseMethodDescriptor yX9_slack.desc).map (fun d => d.parameters.length) = some 1 := by decide +kernel
def m_X9_slack (p1 : UInt64) (S : xS) : Option (UInt64 × xS) := (m_X9_longest S).bind (fun r1 => (if (xb_dcmp .g r1.1 FP.dconst0) < 0 then some ((13830554455654793216 : UInt64), r1.2) else (if 0 < (xb_dcmp .l p1 FP.dconst0) then xck ((FP.dsub p1 r1.1) &&& 9223372036854775807 ≤ (9218868437227405312 : UInt64)) (some ((FP.dsub p1 r1.1), r1.2)) else some ((13830554455654793216 : UInt64), r1.2))))
set_option maxRecDepth 100000 in
set_option maxHeartbeats 4000000 in
theorem c_X9_slack {l : Launch} {D : va_G} {k : Nat → ClassId} {ad : Nat → Nat} {S : xS} {p1 : UInt64} {res : UInt64 × xS} (hM : m_X9_slack p1 S = some res) : xM l yX9_slack wsX9_slack rmX9_slack D k [.ref (ad 24), .double p1] (wY ad k S) (some (.double res.1)) (wY ad k res.2) := by
  refine xM_of (ret := (some .double)) (by decide) rfl (Nat.le_of_ble_eq_true rfl) (fun X C => ?_)
  have C : xC D k (xo X D k (some (.double res.1)) (wY ad k res.2)) X cX9_slack 5 RX9 wsX9_slack (some .double) rmX9_slack := C
  show xJ l D k (xo X D k (some (.double res.1)) (wY ad k res.2)) X 5 0 [(0, .ref (ad 24)), (1, .double p1)] [] (wY ad k S)
  unfold m_X9_slack at hM
  refine xj_aload_n C 0 dX9_slack_0 rfl rfl ?_
  obtain ⟨r1, hRr1, hM⟩ := xbd hM
  refine xj_callV C [] [] 0 (c_X9_longest hRr1) gX9_slack_X9_longest rfl ⟨rfl, rfl⟩ hv_X9_longest ⟨Nat.le_of_ble_eq_true rfl, Nat.le_of_ble_eq_true rfl⟩ 24 (eY_24 ad k _) rfl rfl (Nat.le_of_ble_eq_true rfl) dX9_slack_1 ?_
  refine xj_dstore_n C (L1 := [(3, .double r1.1), (0, .ref (ad 24)), (1, .double p1)]) dX9_slack_4 rfl (by decide) rfl ?_
  refine xj_dload_n C 0 dX9_slack_5 rfl rfl ?_
  refine xj_dconst0 C dX9_slack_6 ?_
  refine xj_dcmp C dX9_slack_7 ?_
  refine xj_if_lt C (tgt := 17) dX9_slack_8 (by decide) (xr_dcmp _ _ _) (fun c2 => ?_) (fun c2 => ?_)
  · have hM := xit hM c2
    refine xj_ldc2d C (List.mem_of_getElem? (i := 1) rfl) dX9_slack_17 ?_
    refine xj_goto C (tgt := 26) dX9_slack_20 (by decide) ?_
    obtain rfl := Option.some.inj hM
    exact xj_dret C rfl dX9_slack_26
  · have hM := xif hM c2
    refine xj_dload_n C 2 dX9_slack_11 rfl rfl ?_
    refine xj_dconst0 C dX9_slack_12 ?_
    refine xj_dcmp C dX9_slack_13 ?_
    refine xj_if_gt C (tgt := 23) dX9_slack_14 (by decide) (xr_dcmp _ _ _) (fun c3 => ?_) (fun c3 => ?_)
    · have hM := xit hM c3
      refine xj_dload_n C 2 dX9_slack_23 rfl rfl ?_
      refine xj_dload_n C 0 dX9_slack_24 rfl rfl ?_
      obtain ⟨g4, hM⟩ := xck_some hM
      refine xj_dsub C g4 dX9_slack_25 ?_
      obtain rfl := Option.some.inj hM
      exact xj_dret C rfl dX9_slack_26
    · have hM := xif hM c3
      refine xj_ldc2d C (List.mem_of_getElem? (i := 1) rfl) dX9_slack_17 ?_
      refine xj_goto C (tgt := 26) dX9_slack_20 (by decide) ?_
      obtain rfl := Option.some.inj hM
      exact xj_dret C rfl dX9_slack_26
def rmX9_reset : Room := { frames := 0, cells := 0, slots := 0, locals := 0 }
theorem hv_X9_reset : yX9_reset.cls = RX9 ∧ yX9_reset.cls ≠ "java/lang/invoke/MethodHandle" ∧ yX9_reset.cls ≠ "java/lang/invoke/VarHandle" ∧ (parseMethodDescriptor yX9_reset.desc).map (fun d => d.parameters.length) = some 0 := by decide +kernel
def m_X9_reset_L2 : Nat → Int → xS → Option (xS)
  | 0, _, _ => none
  | n + 1, v1, S => xck (xr v1) (if 16 ≤ v1 then some S else xck (0 ≤ v1 ∧ v1 < 16) ((xck (xr (S 1 v1)) (if (S 1 v1) = 0 then some 0 else xck (xr (S 2 v1)) (if (S 2 v1) = 0 then some 0 else some 1))).bind (fun r4 => m_X9_reset_L2 n (v1 + 1) (xup S 5 v1 r4))))
def m_X9_reset_L45 : Nat → Int → xS → Option (xS)
  | 0, _, _ => none
  | n + 1, v1, S => xck (xr v1 ∧ xr (S 50 0)) (if (S 50 0) ≤ v1 then some S else xck (0 ≤ v1 ∧ v1 < 10) ((xck (xr (S 8 v1)) (if (S 8 v1) = 0 then some 0 else some 1)).bind (fun r13 => m_X9_reset_L45 n (v1 + 1) (xup S 9 v1 r13))))
def m_X9_reset (S : xS) : Option (xS) := (m_X9_reset_L2 2000 0 S).bind (fun r9 => (m_X9_reset_L45 2000 0 r9).bind (fun r16 => some r16))
set_option maxRecDepth 100000 in
set_option maxHeartbeats 4000000 in
theorem j_X9_reset_L2 {l : Launch} {D : va_G} {k : Nat → ClassId} {ad : Nat → Nat} {o : xO} {X : xX} (C : xC D k o X cX9_reset 2 RX9 wsX9_reset none rmX9_reset) : ∀ (n : Nat) (v1 : Int) (S : xS) (r : xS), m_X9_reset_L2 n v1 S = some r → (xJ l D k o X 2 43 [(0, .ref (ad 24))] [] (wY ad k r)) → xJ l D k o X 2 2 [(0, .ref (ad 24)), (1, .int (xi v1))] [] (wY ad k S) := by
  intro n
  induction n with
  | zero =>
    intro v1 S r hM
    cases hM
  | succ n ih =>
    intro v1 S r hM K
    unfold m_X9_reset_L2 at hM
    refine xj_iload_n C 1 dX9_reset_2 rfl rfl ?_
    refine xj_bipush C (n := 16) (by decide) dX9_reset_3 ?_
    obtain ⟨g1, hM⟩ := xck_some hM
    refine xj_icmp_ge C (tgt := 43) dX9_reset_5 (by decide) ⟨g1, (by decide)⟩ (fun c2 => ?_) (fun c2 => ?_)
    · have hM := xit hM c2
      obtain rfl := Option.some.inj hM
      refine xj_loc C [0] (L1 := [(0, .ref (ad 24))]) rfl ?_
      exact K
    · have hM := xif hM c2
      refine xj_aload_n C 0 dX9_reset_8 rfl rfl ?_
      refine xj_get C (fun _ h => List.mem_cons_of_mem _ (List.mem_append_right _ h)) 24 (eY_24 ad k S) rfl 5 (by decide) (List.mem_of_getElem? (i := 1) rfl) (fun _ _ h => h) rfl dX9_reset_9 ?_
      refine xj_iload_n C 1 dX9_reset_12 rfl rfl ?_
      refine xj_aload_n C 0 dX9_reset_13 rfl rfl ?_
      refine xj_get C (fun _ h => List.mem_cons_of_mem _ (List.mem_append_right _ h)) 24 (eY_24 ad k S) rfl 1 (by decide) (List.mem_of_getElem? (i := 2) rfl) (fun _ _ h => h) rfl dX9_reset_14 ?_
      refine xj_iload_n C 1 dX9_reset_17 rfl rfl ?_
      obtain ⟨g3, hM⟩ := xck_some hM
      refine xj_zald C 1 S 1 (eY_1 ad k S) (Nat.le_of_ble_eq_true rfl) g3 dX9_reset_18 ?_
      obtain ⟨r4, hRr4, hM⟩ := xbd hM
      have Kr4 : xJ l D k o X 2 36 [(0, .ref (ad 24)), (1, .int (xi v1))] [.int (xi r4), .int (xi v1), .ref (ad 5)] (wY ad k S) := by
        refine xj_iast C 5 S 5 (eY_5 ad k S) (Nat.le_of_ble_eq_true rfl) g3 (sY_5 ad k S v1 r4) dX9_reset_36 ?_
        refine xj_iinc C 1 (L1 := [(1, .int (xi (v1 + 1))), (0, .ref (ad 24))]) dX9_reset_37 rfl (by decide) rfl ?_
        refine xj_goto C (tgt := 2) dX9_reset_40 (by decide) ?_
        refine xj_loc C [1, 0] (L1 := [(0, .ref (ad 24)), (1, .int (xi (v1 + 1)))]) rfl ?_
        exact ih _ _ _ hM K
      clear hM
      have hM := hRr4
      obtain ⟨g5, hM⟩ := xck_some hM
      refine xj_if_eq C (tgt := 35) dX9_reset_19 (by decide) g5 (fun c6 => ?_) (fun c6 => ?_)
      · have hM := xit hM c6
        refine xj_iconst C dX9_reset_35 ?_
        obtain rfl := Option.some.inj hM
        exact Kr4
      · have hM := xif hM c6
        refine xj_aload_n C 0 dX9_reset_22 rfl rfl ?_
        refine xj_get C (fun _ h => List.mem_cons_of_mem _ (List.mem_append_right _ h)) 24 (eY_24 ad k S) rfl 2 (by decide) (List.mem_of_getElem? (i := 3) rfl) (fun _ _ h => h) rfl dX9_reset_23 ?_
        refine xj_iload_n C 1 dX9_reset_26 rfl rfl ?_
        refine xj_zald C 2 S 2 (eY_2 ad k S) (Nat.le_of_ble_eq_true rfl) g3 dX9_reset_27 ?_
        obtain ⟨g7, hM⟩ := xck_some hM
        refine xj_if_eq C (tgt := 35) dX9_reset_28 (by decide) g7 (fun c8 => ?_) (fun c8 => ?_)
        · have hM := xit hM c8
          refine xj_iconst C dX9_reset_35 ?_
          obtain rfl := Option.some.inj hM
          exact Kr4
        · have hM := xif hM c8
          refine xj_iconst C dX9_reset_31 ?_
          refine xj_goto C (tgt := 36) dX9_reset_32 (by decide) ?_
          obtain rfl := Option.some.inj hM
          exact Kr4
set_option maxRecDepth 100000 in
set_option maxHeartbeats 4000000 in
theorem j_X9_reset_L45 {l : Launch} {D : va_G} {k : Nat → ClassId} {ad : Nat → Nat} {o : xO} {X : xX} (C : xC D k o X cX9_reset 2 RX9 wsX9_reset none rmX9_reset) : ∀ (n : Nat) (v1 : Int) (S : xS) (r : xS), m_X9_reset_L45 n v1 S = some r → (xJ l D k o X 2 79 [] [] (wY ad k r)) → xJ l D k o X 2 45 [(0, .ref (ad 24)), (1, .int (xi v1))] [] (wY ad k S) := by
  intro n
  induction n with
  | zero =>
    intro v1 S r hM
    cases hM
  | succ n ih =>
    intro v1 S r hM K
    unfold m_X9_reset_L45 at hM
    refine xj_iload_n C 1 dX9_reset_45 rfl rfl ?_
    refine xj_aload_n C 0 dX9_reset_46 rfl rfl ?_
    refine xj_get C (v := .int (xi (S 50 0))) (fun _ h => List.mem_cons_of_mem _ (List.mem_append_right _ h)) 24 (eY_24 ad k S) rfl 6 (by decide) (List.mem_of_getElem? (i := 4) rfl) (fun _ _ h => h) rfl dX9_reset_47 ?_
    obtain ⟨g10, hM⟩ := xck_some hM
    refine xj_icmp_ge C (tgt := 79) dX9_reset_50 (by decide) ⟨g10.1, g10.2⟩ (fun c11 => ?_) (fun c11 => ?_)
    · have hM := xit hM c11
      obtain rfl := Option.some.inj hM
      refine xj_loc C [] (L1 := []) rfl ?_
      exact K
    · have hM := xif hM c11
      refine xj_aload_n C 0 dX9_reset_53 rfl rfl ?_
      refine xj_get C (fun _ h => List.mem_cons_of_mem _ (List.mem_append_right _ h)) 24 (eY_24 ad k S) rfl 10 (by decide) (List.mem_of_getElem? (i := 5) rfl) (fun _ _ h => h) rfl dX9_reset_54 ?_
      refine xj_iload_n C 1 dX9_reset_57 rfl rfl ?_
      refine xj_aload_n C 0 dX9_reset_58 rfl rfl ?_
      refine xj_get C (fun _ h => List.mem_cons_of_mem _ (List.mem_append_right _ h)) 24 (eY_24 ad k S) rfl 9 (by decide) (List.mem_of_getElem? (i := 6) rfl) (fun _ _ h => h) rfl dX9_reset_59 ?_
      refine xj_iload_n C 1 dX9_reset_62 rfl rfl ?_
      obtain ⟨g12, hM⟩ := xck_some hM
      refine xj_zald C 8 S 8 (eY_8 ad k S) (Nat.le_of_ble_eq_true rfl) g12 dX9_reset_63 ?_
      obtain ⟨r13, hRr13, hM⟩ := xbd hM
      have Kr13 : xJ l D k o X 2 72 [(0, .ref (ad 24)), (1, .int (xi v1))] [.int (xi r13), .int (xi v1), .ref (ad 9)] (wY ad k S) := by
        refine xj_iast C 9 S 9 (eY_9 ad k S) (Nat.le_of_ble_eq_true rfl) g12 (sY_9 ad k S v1 r13) dX9_reset_72 ?_
        refine xj_iinc C 1 (L1 := [(1, .int (xi (v1 + 1))), (0, .ref (ad 24))]) dX9_reset_73 rfl (by decide) rfl ?_
        refine xj_goto C (tgt := 45) dX9_reset_76 (by decide) ?_
        refine xj_loc C [1, 0] (L1 := [(0, .ref (ad 24)), (1, .int (xi (v1 + 1)))]) rfl ?_
        exact ih _ _ _ hM K
      clear hM
      have hM := hRr13
      obtain ⟨g14, hM⟩ := xck_some hM
      refine xj_if_eq C (tgt := 71) dX9_reset_64 (by decide) g14 (fun c15 => ?_) (fun c15 => ?_)
      · have hM := xit hM c15
        refine xj_iconst C dX9_reset_71 ?_
        obtain rfl := Option.some.inj hM
        exact Kr13
      · have hM := xif hM c15
        refine xj_iconst C dX9_reset_67 ?_
        refine xj_goto C (tgt := 72) dX9_reset_68 (by decide) ?_
        obtain rfl := Option.some.inj hM
        exact Kr13
set_option maxRecDepth 100000 in
set_option maxHeartbeats 4000000 in
theorem c_X9_reset {l : Launch} {D : va_G} {k : Nat → ClassId} {ad : Nat → Nat} {S : xS} {res : xS} (hM : m_X9_reset S = some res) : xM l yX9_reset wsX9_reset rmX9_reset D k [.ref (ad 24)] (wY ad k S) none (wY ad k res) := by
  refine xM_of (ret := none) (by decide) rfl (Nat.le_of_ble_eq_true rfl) (fun X C => ?_)
  have C : xC D k (xo X D k none (wY ad k res)) X cX9_reset 2 RX9 wsX9_reset none rmX9_reset := C
  show xJ l D k (xo X D k none (wY ad k res)) X 2 0 [(0, .ref (ad 24))] [] (wY ad k S)
  unfold m_X9_reset at hM
  refine xj_iconst C dX9_reset_0 ?_
  refine xj_istore_n C (L1 := [(1, .int (xi 0)), (0, .ref (ad 24))]) dX9_reset_1 rfl (by decide) rfl ?_
  obtain ⟨r9, hLr9, hM⟩ := xbd hM
  refine xj_loc C [1, 0] (L1 := [(0, .ref (ad 24)), (1, .int (xi 0))]) rfl ?_
  refine j_X9_reset_L2 C _ _ _ _ hLr9 ?_
  refine xj_iconst C dX9_reset_43 ?_
  refine xj_istore_n C (L1 := [(1, .int (xi 0)), (0, .ref (ad 24))]) dX9_reset_44 rfl (by decide) rfl ?_
  obtain ⟨r16, hLr16, hM⟩ := xbd hM
  refine xj_loc C [1, 0] (L1 := [(0, .ref (ad 24)), (1, .int (xi 0))]) rfl ?_
  refine j_X9_reset_L45 C _ _ _ _ hLr16 ?_
  obtain rfl := Option.some.inj hM
  exact xj_vret C rfl dX9_reset_79
def rmX9_given : Room := { frames := 0, cells := 0, slots := 0, locals := 0 }
theorem hv_X9_given : yX9_given.cls = RX9 ∧ yX9_given.cls ≠ "java/lang/invoke/MethodHandle" ∧ yX9_given.cls ≠ "java/lang/invoke/VarHandle" ∧ (parseMethodDescriptor yX9_given.desc).map (fun d => d.parameters.length) = some 2 := by decide +kernel
def m_X9_given (p1 : Int) (p2 : Int) (S : xS) : Option (Int) := xck (xr p1) (if 0 ≤ p1 then (if p1 < 16 then xck (0 ≤ p1 ∧ p1 < 16) (some (S 5 p1)) else some (xb_iand (xb_ishr p2 (p1 - 16)) 1)) else some 0)
set_option maxRecDepth 100000 in
set_option maxHeartbeats 4000000 in
theorem c_X9_given {l : Launch} {D : va_G} {k : Nat → ClassId} {ad : Nat → Nat} {S : xS} {p1 : Int} {p2 : Int} {res : Int} (hM : m_X9_given p1 p2 S = some res) : xM l yX9_given wsX9_given rmX9_given D k [.ref (ad 24), .int (xi p1), .int (xi p2)] (wY ad k S) (some (.int (xi res))) (wY ad k S) := by
  refine xM_of (ret := (some .int)) (by decide) rfl (Nat.le_of_ble_eq_true rfl) (fun X C => ?_)
  have C : xC D k (xo X D k (some (.int (xi res))) (wY ad k S)) X cX9_given 3 RX9 wsX9_given (some .int) rmX9_given := C
  show xJ l D k (xo X D k (some (.int (xi res))) (wY ad k S)) X 3 0 [(0, .ref (ad 24)), (1, .int (xi p1)), (2, .int (xi p2))] [] (wY ad k S)
  unfold m_X9_given at hM
  refine xj_iload_n C 1 dX9_given_0 rfl rfl ?_
  obtain ⟨g1, hM⟩ := xck_some hM
  refine xj_if_ge C (tgt := 8) dX9_given_1 (by decide) g1 (fun c2 => ?_) (fun c2 => ?_)
  · have hM := xit hM c2
    refine xj_iload_n C 1 dX9_given_8 rfl rfl ?_
    refine xj_bipush C (n := 16) (by decide) dX9_given_9 ?_
    refine xj_icmp_lt C (tgt := 25) dX9_given_11 (by decide) ⟨g1, (by decide)⟩ (fun c3 => ?_) (fun c3 => ?_)
    · have hM := xit hM c3
      refine xj_aload_n C 0 dX9_given_25 rfl rfl ?_
      refine xj_get C (fun _ h => List.mem_cons_of_mem _ (List.mem_append_right _ h)) 24 (eY_24 ad k S) rfl 5 (by decide) (List.mem_of_getElem? (i := 1) rfl) (fun _ _ h => h) rfl dX9_given_26 ?_
      refine xj_iload_n C 1 dX9_given_29 rfl rfl ?_
      obtain ⟨g4, hM⟩ := xck_some hM
      refine xj_iald C 5 S 5 (eY_5 ad k S) (Nat.le_of_ble_eq_true rfl) g4 dX9_given_30 ?_
      obtain rfl := Option.some.inj hM
      exact xj_iret C rfl dX9_given_31
    · have hM := xif hM c3
      refine xj_iload_n C 2 dX9_given_14 rfl rfl ?_
      refine xj_iload_n C 1 dX9_given_15 rfl rfl ?_
      refine xj_bipush C (n := 16) (by decide) dX9_given_16 ?_
      refine xj_isub C dX9_given_18 ?_
      refine xj_ishr C dX9_given_19 ?_
      refine xj_iconst C dX9_given_20 ?_
      refine xj_iand C dX9_given_21 ?_
      refine xj_goto C (tgt := 31) dX9_given_22 (by decide) ?_
      obtain rfl := Option.some.inj hM
      exact xj_iret C rfl dX9_given_31
  · have hM := xif hM c2
    refine xj_iconst C dX9_given_4 ?_
    refine xj_goto C (tgt := 31) dX9_given_5 (by decide) ?_
    obtain rfl := Option.some.inj hM
    exact xj_iret C rfl dX9_given_31
def rmX9_looked : Room := { frames := 5, cells := 0, slots := 0, locals := 114 }
theorem hv_X9_looked : yX9_looked.cls = RX9 ∧ yX9_looked.cls ≠ "java/lang/invoke/MethodHandle" ∧ yX9_looked.cls ≠ "java/lang/invoke/VarHandle" ∧ (parseMethodDescriptor yX9_looked.desc).map (fun d => d.parameters.length) = some 2 := by decide +kernel
def m_X9_looked_L5 (p1 : Int) (p2 : Int) : Nat → Int → Int → xS → Option (Int × xS)
  | 0, _, _, _ => none
  | n + 1, v3, v4, S => xck (xr v4) (if 3 ≤ v4 then some (v3, S) else (m_X9_gets ((3 * p1) + v4) S).bind (fun r3 => (m_X9_given r3.1 p2 r3.2).bind (fun r4 => m_X9_looked_L5 p1 p2 n (v3 + (xb_ishl r4 v4)) (v4 + 1) r3.2)))
def m_X9_looked (p1 : Int) (p2 : Int) (S : xS) : Option (Int × xS) := (m_X9_looked_L5 p1 p2 2000 0 0 S).bind (fun r5 => xck (0 ≤ p1 ∧ p1 < 16) (some ((xb_iand (xb_ishr (r5.2 0 p1) r5.1) 1), r5.2)))
set_option maxRecDepth 100000 in
set_option maxHeartbeats 4000000 in
theorem j_X9_looked_L5 {l : Launch} {D : va_G} {k : Nat → ClassId} {ad : Nat → Nat} {o : xO} {X : xX} (C : xC D k o X cX9_looked 6 RX9 wsX9_looked (some .int) rmX9_looked) (p1 : Int) (p2 : Int) : ∀ (n : Nat) (v3 : Int) (v4 : Int) (S : xS) (r : Int × xS), m_X9_looked_L5 p1 p2 n v3 v4 S = some r → (xJ l D k o X 6 42 [(0, .ref (ad 24)), (1, .int (xi p1)), (3, .int (xi r.1))] [] (wY ad k r.2)) → xJ l D k o X 6 5 [(0, .ref (ad 24)), (1, .int (xi p1)), (2, .int (xi p2)), (3, .int (xi v3)), (4, .int (xi v4))] [] (wY ad k S) := by
  intro n
  induction n with
  | zero =>
    intro v3 v4 S r hM
    cases hM
  | succ n ih =>
    intro v3 v4 S r hM K
    unfold m_X9_looked_L5 at hM
    refine xj_iload C 4 dX9_looked_5 rfl ?_
    refine xj_iconst C dX9_looked_7 ?_
    obtain ⟨g1, hM⟩ := xck_some hM
    refine xj_icmp_ge C (tgt := 42) dX9_looked_8 (by decide) ⟨g1, (by decide)⟩ (fun c2 => ?_) (fun c2 => ?_)
    · have hM := xit hM c2
      obtain rfl := Option.some.inj hM
      refine xj_loc C [0, 1, 3] (L1 := [(0, .ref (ad 24)), (1, .int (xi p1)), (3, .int (xi v3))]) rfl ?_
      exact K
    · have hM := xif hM c2
      refine xj_aload_n C 0 dX9_looked_11 rfl rfl ?_
      refine xj_iconst C dX9_looked_12 ?_
      refine xj_iload_n C 1 dX9_looked_13 rfl rfl ?_
      refine xj_imul C dX9_looked_14 ?_
      refine xj_iload C 4 dX9_looked_15 rfl ?_
      refine xj_iadd C dX9_looked_17 ?_
      obtain ⟨r3, hRr3, hM⟩ := xbd hM
      refine xj_callV C [.int (xi ((3 * p1) + v4))] [] 1 (c_X9_gets hRr3) gX9_looked_X9_gets rfl ⟨rfl, rfl⟩ hv_X9_gets ⟨Nat.le_of_ble_eq_true rfl, Nat.le_of_ble_eq_true rfl⟩ 24 (eY_24 ad k _) rfl rfl (Nat.le_of_ble_eq_true rfl) dX9_looked_18 ?_
      refine xj_istore C (L1 := [(5, .int (xi r3.1)), (0, .ref (ad 24)), (1, .int (xi p1)), (2, .int (xi p2)), (3, .int (xi v3)), (4, .int (xi v4))]) dX9_looked_21 (by decide) rfl ?_
      refine xj_iload_n C 4 dX9_looked_23 rfl rfl ?_
      refine xj_aload_n C 1 dX9_looked_24 rfl rfl ?_
      refine xj_iload C 0 dX9_looked_25 rfl ?_
      refine xj_iload_n C 3 dX9_looked_27 rfl rfl ?_
      obtain ⟨r4, hRr4, hM⟩ := xbd hM
      refine xj_callV C [.int (xi r3.1), .int (xi p2)] [.int (xi v3)] 2 (c_X9_given hRr4) gX9_looked_X9_given rfl ⟨rfl, rfl⟩ hv_X9_given ⟨Nat.le_of_ble_eq_true rfl, Nat.le_of_ble_eq_true rfl⟩ 24 (eY_24 ad k _) rfl rfl (Nat.le_of_ble_eq_true rfl) dX9_looked_28 ?_
      refine xj_iload C 5 dX9_looked_31 rfl ?_
      refine xj_ishl C dX9_looked_33 ?_
      refine xj_iadd C dX9_looked_34 ?_
      refine xj_istore_n C (L1 := [(3, .int (xi (v3 + (xb_ishl r4 v4)))), (5, .int (xi r3.1)), (0, .ref (ad 24)), (1, .int (xi p1)), (2, .int (xi p2)), (4, .int (xi v4))]) dX9_looked_35 rfl (by decide) rfl ?_
      refine xj_iinc C 5 (L1 := [(4, .int (xi (v4 + 1))), (3, .int (xi (v3 + (xb_ishl r4 v4)))), (5, .int (xi r3.1)), (0, .ref (ad 24)), (1, .int (xi p1)), (2, .int (xi p2))]) dX9_looked_36 rfl (by decide) rfl ?_
      refine xj_goto C (tgt := 5) dX9_looked_39 (by decide) ?_
      refine xj_loc C [3, 4, 5, 1, 0] (L1 := [(0, .ref (ad 24)), (1, .int (xi p1)), (2, .int (xi p2)), (3, .int (xi (v3 + (xb_ishl r4 v4)))), (4, .int (xi (v4 + 1)))]) rfl ?_
      exact ih _ _ _ _ hM K
set_option maxRecDepth 100000 in
set_option maxHeartbeats 4000000 in
theorem c_X9_looked {l : Launch} {D : va_G} {k : Nat → ClassId} {ad : Nat → Nat} {S : xS} {p1 : Int} {p2 : Int} {res : Int × xS} (hM : m_X9_looked p1 p2 S = some res) : xM l yX9_looked wsX9_looked rmX9_looked D k [.ref (ad 24), .int (xi p1), .int (xi p2)] (wY ad k S) (some (.int (xi res.1))) (wY ad k res.2) := by
  refine xM_of (ret := (some .int)) (by decide) rfl (Nat.le_of_ble_eq_true rfl) (fun X C => ?_)
  have C : xC D k (xo X D k (some (.int (xi res.1))) (wY ad k res.2)) X cX9_looked 6 RX9 wsX9_looked (some .int) rmX9_looked := C
  show xJ l D k (xo X D k (some (.int (xi res.1))) (wY ad k res.2)) X 6 0 [(0, .ref (ad 24)), (1, .int (xi p1)), (2, .int (xi p2))] [] (wY ad k S)
  unfold m_X9_looked at hM
  refine xj_iconst C dX9_looked_0 ?_
  refine xj_istore_n C (L1 := [(3, .int (xi 0)), (0, .ref (ad 24)), (1, .int (xi p1)), (2, .int (xi p2))]) dX9_looked_1 rfl (by decide) rfl ?_
  refine xj_iconst C dX9_looked_2 ?_
  refine xj_istore C (L1 := [(4, .int (xi 0)), (3, .int (xi 0)), (0, .ref (ad 24)), (1, .int (xi p1)), (2, .int (xi p2))]) dX9_looked_3 (by decide) rfl ?_
  obtain ⟨r5, hLr5, hM⟩ := xbd hM
  refine xj_loc C [2, 3, 4, 1, 0] (L1 := [(0, .ref (ad 24)), (1, .int (xi p1)), (2, .int (xi p2)), (3, .int (xi 0)), (4, .int (xi 0))]) rfl ?_
  refine j_X9_looked_L5 C p1 p2 _ _ _ _ _ hLr5 ?_
  refine xj_aload_n C 0 dX9_looked_42 rfl rfl ?_
  refine xj_get C (fun _ h => List.mem_cons_of_mem _ (List.mem_append_right _ h)) 24 (eY_24 ad k r5.2) rfl 0 (by decide) (List.mem_of_getElem? (i := 1) rfl) (fun _ _ h => h) rfl dX9_looked_43 ?_
  refine xj_iload_n C 1 dX9_looked_46 rfl rfl ?_
  obtain ⟨g6, hM⟩ := xck_some hM
  refine xj_iald C 0 r5.2 0 (eY_0 ad k r5.2) (Nat.le_of_ble_eq_true rfl) g6 dX9_looked_47 ?_
  refine xj_iload_n C 2 dX9_looked_48 rfl rfl ?_
  refine xj_ishr C dX9_looked_49 ?_
  refine xj_iconst C dX9_looked_50 ?_
  refine xj_iand C dX9_looked_51 ?_
  obtain rfl := Option.some.inj hM
  exact xj_iret C rfl dX9_looked_52
def rmX9_clock : Room := { frames := 6, cells := 0, slots := 0, locals := 139 }
theorem hv_X9_clock : yX9_clock.cls = RX9 ∧ yX9_clock.cls ≠ "java/lang/invoke/MethodHandle" ∧ yX9_clock.cls ≠ "java/lang/invoke/VarHandle" ∧ (parseMethodDescriptor yX9_clock.desc).map (fun d => d.parameters.length) = some 1 := by decide +kernel
def m_X9_clock_L10 (p1 : Int) (p2 : Int) : Nat → Int → xS → Option (xS)
  | 0, _, _ => none
  | n + 1, v3, S => xck (xr v3) (if 16 ≤ v3 then some S else (m_X9_looked v3 p1 S).bind (fun r5 => xck (0 ≤ v3 ∧ v3 < 16) ((xck (xr (r5.2 1 v3)) (if (r5.2 1 v3) = 0 then some r5.1 else some (r5.2 5 v3))).bind (fun r7 => m_X9_clock_L10 p1 p2 n (v3 + 1) (xup r5.2 5 v3 r7)))))
def m_X9_clock_L2 (p1 : Int) : Nat → Int → xS → Option (xS)
  | 0, _, _ => none
  | n + 1, v2, S => xck (xr v2) (if 16 ≤ v2 then some S else (m_X9_clock_L10 p1 v2 2000 0 S).bind (fun r10 => m_X9_clock_L2 p1 n (v2 + 1) r10))
def m_X9_clock_L66 (p1 : Int) : Nat → Int → Int → xS → Option (Int × xS)
  | 0, _, _, _ => none
  | n + 1, v2, v3, S => xck (xr v3) (if 4 ≤ v3 then some (v2, S) else (m_X9_outputOf v3 S).bind (fun r14 => (m_X9_given r14.1 p1 r14.2).bind (fun r15 => m_X9_clock_L66 p1 n (v2 + (xb_ishl r15 v3)) (v3 + 1) r14.2)))
def m_X9_clock_L101 (p1 : Int) (p2 : Int) : Nat → Int → Int → xS → Option (Int × xS)
  | 0, _, _, _ => none
  | n + 1, v3, v4, S => xck (xr v4) (if 16 ≤ v4 then some (v3, S) else (m_X9_looked v4 p1 S).bind (fun r19 => m_X9_clock_L101 p1 p2 n (v3 + (xb_ishl r19.1 v4)) (v4 + 1) r19.2))
def m_X9_clock_L130 (p2 : Int) (p3 : Int) : Nat → Int → xS → Option (xS)
  | 0, _, _ => none
  | n + 1, v4, S => xck (xr v4) (if 16 ≤ v4 then some S else xck (0 ≤ v4 ∧ v4 < 16) ((xck (xr (S 1 v4)) (if (S 1 v4) = 0 then some (S 5 v4) else some (xb_iand (xb_ishr p3 v4) 1))).bind (fun r24 => m_X9_clock_L130 p2 p3 n (v4 + 1) (xup S 5 v4 r24))))
def m_X9_clock (p1 : Int) (S : xS) : Option (Int × xS) := (m_X9_clock_L2 p1 2000 0 S).bind (fun r11 => (m_X9_clock_L66 p1 2000 0 0 r11).bind (fun r16 => (m_X9_clock_L101 p1 r16.1 2000 0 0 r16.2).bind (fun r20 => (m_X9_clock_L130 r16.1 r20.1 2000 0 r20.2).bind (fun r27 => some (r16.1, r27)))))
set_option maxRecDepth 100000 in
set_option maxHeartbeats 4000000 in
theorem j_X9_clock_L10 {l : Launch} {D : va_G} {k : Nat → ClassId} {ad : Nat → Nat} {o : xO} {X : xX} (C : xC D k o X cX9_clock 5 RX9 wsX9_clock (some .int) rmX9_clock) (p1 : Int) (p2 : Int) : ∀ (n : Nat) (v3 : Int) (S : xS) (r : xS), m_X9_clock_L10 p1 p2 n v3 S = some r → (xJ l D k o X 5 56 [(0, .ref (ad 24)), (1, .int (xi p1)), (2, .int (xi p2))] [] (wY ad k r)) → xJ l D k o X 5 10 [(0, .ref (ad 24)), (1, .int (xi p1)), (2, .int (xi p2)), (3, .int (xi v3))] [] (wY ad k S) := by
  intro n
  induction n with
  | zero =>
    intro v3 S r hM
    cases hM
  | succ n ih =>
    intro v3 S r hM K
    unfold m_X9_clock_L10 at hM
    refine xj_iload_n C 3 dX9_clock_10 rfl rfl ?_
    refine xj_bipush C (n := 16) (by decide) dX9_clock_11 ?_
    obtain ⟨g3, hM⟩ := xck_some hM
    refine xj_icmp_ge C (tgt := 56) dX9_clock_13 (by decide) ⟨g3, (by decide)⟩ (fun c4 => ?_) (fun c4 => ?_)
    · have hM := xit hM c4
      obtain rfl := Option.some.inj hM
      refine xj_loc C [0, 1, 2] (L1 := [(0, .ref (ad 24)), (1, .int (xi p1)), (2, .int (xi p2))]) rfl ?_
      exact K
    · have hM := xif hM c4
      refine xj_aload_n C 0 dX9_clock_16 rfl rfl ?_
      refine xj_iload_n C 3 dX9_clock_17 rfl rfl ?_
      refine xj_iload_n C 1 dX9_clock_18 rfl rfl ?_
      obtain ⟨r5, hRr5, hM⟩ := xbd hM
      refine xj_callV C [.int (xi v3), .int (xi p1)] [] 2 (c_X9_looked hRr5) gX9_clock_X9_looked rfl ⟨rfl, rfl⟩ hv_X9_looked ⟨Nat.le_of_ble_eq_true rfl, Nat.le_of_ble_eq_true rfl⟩ 24 (eY_24 ad k _) rfl rfl (Nat.le_of_ble_eq_true rfl) dX9_clock_19 ?_
      refine xj_istore C (L1 := [(4, .int (xi r5.1)), (0, .ref (ad 24)), (1, .int (xi p1)), (2, .int (xi p2)), (3, .int (xi v3))]) dX9_clock_22 (by decide) rfl ?_
      refine xj_aload_n C 1 dX9_clock_24 rfl rfl ?_
      refine xj_get C (fun _ h => List.mem_cons_of_mem _ (List.mem_append_right _ h)) 24 (eY_24 ad k r5.2) rfl 5 (by decide) (List.mem_of_getElem? (i := 1) rfl) (fun _ _ h => h) rfl dX9_clock_25 ?_
      refine xj_iload_n C 4 dX9_clock_28 rfl rfl ?_
      refine xj_aload_n C 1 dX9_clock_29 rfl rfl ?_
      refine xj_get C (fun _ h => List.mem_cons_of_mem _ (List.mem_append_right _ h)) 24 (eY_24 ad k r5.2) rfl 1 (by decide) (List.mem_of_getElem? (i := 2) rfl) (fun _ _ h => h) rfl dX9_clock_30 ?_
      refine xj_iload_n C 4 dX9_clock_33 rfl rfl ?_
      obtain ⟨g6, hM⟩ := xck_some hM
      refine xj_zald C 1 r5.2 1 (eY_1 ad k r5.2) (Nat.le_of_ble_eq_true rfl) g6 dX9_clock_34 ?_
      obtain ⟨r7, hRr7, hM⟩ := xbd hM
      have Kr7 : xJ l D k o X 5 49 [(0, .ref (ad 24)), (1, .int (xi p1)), (2, .int (xi p2)), (3, .int (xi v3))] [.int (xi r7), .int (xi v3), .ref (ad 5)] (wY ad k r5.2) := by
        refine xj_iast C 5 r5.2 5 (eY_5 ad k r5.2) (Nat.le_of_ble_eq_true rfl) g6 (sY_5 ad k r5.2 v3 r7) dX9_clock_49 ?_
        refine xj_iinc C 3 (L1 := [(3, .int (xi (v3 + 1))), (0, .ref (ad 24)), (1, .int (xi p1)), (2, .int (xi p2))]) dX9_clock_50 rfl (by decide) rfl ?_
        refine xj_goto C (tgt := 10) dX9_clock_53 (by decide) ?_
        refine xj_loc C [1, 2, 3, 0] (L1 := [(0, .ref (ad 24)), (1, .int (xi p1)), (2, .int (xi p2)), (3, .int (xi (v3 + 1)))]) rfl ?_
        exact ih _ _ _ hM K
      clear hM
      have hM := hRr7
      obtain ⟨g8, hM⟩ := xck_some hM
      refine xj_if_eq C (tgt := 47) dX9_clock_35 (by decide) g8 (fun c9 => ?_) (fun c9 => ?_)
      · have hM := xit hM c9
        refine xj_iload C 0 dX9_clock_47 rfl ?_
        obtain rfl := Option.some.inj hM
        refine xj_loc C [1, 2, 3, 4] (L1 := [(0, .ref (ad 24)), (1, .int (xi p1)), (2, .int (xi p2)), (3, .int (xi v3))]) rfl ?_
        exact Kr7
      · have hM := xif hM c9
        refine xj_aload_n C 1 dX9_clock_38 rfl rfl ?_
        refine xj_get C (fun _ h => List.mem_cons_of_mem _ (List.mem_append_right _ h)) 24 (eY_24 ad k r5.2) rfl 5 (by decide) (List.mem_of_getElem? (i := 1) rfl) (fun _ _ h => h) rfl dX9_clock_39 ?_
        refine xj_iload_n C 4 dX9_clock_42 rfl rfl ?_
        refine xj_iald C 5 r5.2 5 (eY_5 ad k r5.2) (Nat.le_of_ble_eq_true rfl) g6 dX9_clock_43 ?_
        refine xj_goto C (tgt := 49) dX9_clock_44 (by decide) ?_
        obtain rfl := Option.some.inj hM
        refine xj_loc C [1, 2, 3, 4] (L1 := [(0, .ref (ad 24)), (1, .int (xi p1)), (2, .int (xi p2)), (3, .int (xi v3))]) rfl ?_
        exact Kr7
set_option maxRecDepth 100000 in
set_option maxHeartbeats 4000000 in
theorem j_X9_clock_L2 {l : Launch} {D : va_G} {k : Nat → ClassId} {ad : Nat → Nat} {o : xO} {X : xX} (C : xC D k o X cX9_clock 5 RX9 wsX9_clock (some .int) rmX9_clock) (p1 : Int) : ∀ (n : Nat) (v2 : Int) (S : xS) (r : xS), m_X9_clock_L2 p1 n v2 S = some r → (xJ l D k o X 5 62 [(0, .ref (ad 24)), (1, .int (xi p1))] [] (wY ad k r)) → xJ l D k o X 5 2 [(0, .ref (ad 24)), (1, .int (xi p1)), (2, .int (xi v2))] [] (wY ad k S) := by
  intro n
  induction n with
  | zero =>
    intro v2 S r hM
    cases hM
  | succ n ih =>
    intro v2 S r hM K
    unfold m_X9_clock_L2 at hM
    refine xj_iload_n C 2 dX9_clock_2 rfl rfl ?_
    refine xj_bipush C (n := 16) (by decide) dX9_clock_3 ?_
    obtain ⟨g1, hM⟩ := xck_some hM
    refine xj_icmp_ge C (tgt := 62) dX9_clock_5 (by decide) ⟨g1, (by decide)⟩ (fun c2 => ?_) (fun c2 => ?_)
    · have hM := xit hM c2
      obtain rfl := Option.some.inj hM
      refine xj_loc C [0, 1] (L1 := [(0, .ref (ad 24)), (1, .int (xi p1))]) rfl ?_
      exact K
    · have hM := xif hM c2
      refine xj_iconst C dX9_clock_8 ?_
      refine xj_istore_n C (L1 := [(3, .int (xi 0)), (0, .ref (ad 24)), (1, .int (xi p1)), (2, .int (xi v2))]) dX9_clock_9 rfl (by decide) rfl ?_
      obtain ⟨r10, hLr10, hM⟩ := xbd hM
      refine xj_loc C [1, 2, 3, 0] (L1 := [(0, .ref (ad 24)), (1, .int (xi p1)), (2, .int (xi v2)), (3, .int (xi 0))]) rfl ?_
      refine j_X9_clock_L10 C p1 v2 _ _ _ _ hLr10 ?_
      refine xj_iinc C 2 (L1 := [(2, .int (xi (v2 + 1))), (0, .ref (ad 24)), (1, .int (xi p1))]) dX9_clock_56 rfl (by decide) rfl ?_
      refine xj_goto C (tgt := 2) dX9_clock_59 (by decide) ?_
      refine xj_loc C [1, 2, 0] (L1 := [(0, .ref (ad 24)), (1, .int (xi p1)), (2, .int (xi (v2 + 1)))]) rfl ?_
      exact ih _ _ _ hM K
set_option maxRecDepth 100000 in
set_option maxHeartbeats 4000000 in
theorem j_X9_clock_L66 {l : Launch} {D : va_G} {k : Nat → ClassId} {ad : Nat → Nat} {o : xO} {X : xX} (C : xC D k o X cX9_clock 5 RX9 wsX9_clock (some .int) rmX9_clock) (p1 : Int) : ∀ (n : Nat) (v2 : Int) (v3 : Int) (S : xS) (r : Int × xS), m_X9_clock_L66 p1 n v2 v3 S = some r → (xJ l D k o X 5 96 [(0, .ref (ad 24)), (1, .int (xi p1)), (2, .int (xi r.1))] [] (wY ad k r.2)) → xJ l D k o X 5 66 [(0, .ref (ad 24)), (1, .int (xi p1)), (2, .int (xi v2)), (3, .int (xi v3))] [] (wY ad k S) := by
  intro n
  induction n with
  | zero =>
    intro v2 v3 S r hM
    cases hM
  | succ n ih =>
    intro v2 v3 S r hM K
    unfold m_X9_clock_L66 at hM
    refine xj_iload_n C 3 dX9_clock_66 rfl rfl ?_
    refine xj_iconst C dX9_clock_67 ?_
    obtain ⟨g12, hM⟩ := xck_some hM
    refine xj_icmp_ge C (tgt := 96) dX9_clock_68 (by decide) ⟨g12, (by decide)⟩ (fun c13 => ?_) (fun c13 => ?_)
    · have hM := xit hM c13
      obtain rfl := Option.some.inj hM
      refine xj_loc C [0, 1, 2] (L1 := [(0, .ref (ad 24)), (1, .int (xi p1)), (2, .int (xi v2))]) rfl ?_
      exact K
    · have hM := xif hM c13
      refine xj_aload_n C 0 dX9_clock_71 rfl rfl ?_
      refine xj_iload_n C 3 dX9_clock_72 rfl rfl ?_
      obtain ⟨r14, hRr14, hM⟩ := xbd hM
      refine xj_callV C [.int (xi v3)] [] 1 (c_X9_outputOf hRr14) gX9_clock_X9_outputOf rfl ⟨rfl, rfl⟩ hv_X9_outputOf ⟨Nat.le_of_ble_eq_true rfl, Nat.le_of_ble_eq_true rfl⟩ 24 (eY_24 ad k _) rfl rfl (Nat.le_of_ble_eq_true rfl) dX9_clock_73 ?_
      refine xj_istore C (L1 := [(4, .int (xi r14.1)), (0, .ref (ad 24)), (1, .int (xi p1)), (2, .int (xi v2)), (3, .int (xi v3))]) dX9_clock_76 (by decide) rfl ?_
      refine xj_iload_n C 3 dX9_clock_78 rfl rfl ?_
      refine xj_aload_n C 1 dX9_clock_79 rfl rfl ?_
      refine xj_iload C 0 dX9_clock_80 rfl ?_
      refine xj_iload_n C 2 dX9_clock_82 rfl rfl ?_
      obtain ⟨r15, hRr15, hM⟩ := xbd hM
      refine xj_callV C [.int (xi r14.1), .int (xi p1)] [.int (xi v2)] 2 (c_X9_given hRr15) gX9_clock_X9_given rfl ⟨rfl, rfl⟩ hv_X9_given ⟨Nat.le_of_ble_eq_true rfl, Nat.le_of_ble_eq_true rfl⟩ 24 (eY_24 ad k _) rfl rfl (Nat.le_of_ble_eq_true rfl) dX9_clock_83 ?_
      refine xj_iload_n C 4 dX9_clock_86 rfl rfl ?_
      refine xj_ishl C dX9_clock_87 ?_
      refine xj_iadd C dX9_clock_88 ?_
      refine xj_istore_n C (L1 := [(2, .int (xi (v2 + (xb_ishl r15 v3)))), (4, .int (xi r14.1)), (0, .ref (ad 24)), (1, .int (xi p1)), (3, .int (xi v3))]) dX9_clock_89 rfl (by decide) rfl ?_
      refine xj_iinc C 4 (L1 := [(3, .int (xi (v3 + 1))), (2, .int (xi (v2 + (xb_ishl r15 v3)))), (4, .int (xi r14.1)), (0, .ref (ad 24)), (1, .int (xi p1))]) dX9_clock_90 rfl (by decide) rfl ?_
      refine xj_goto C (tgt := 66) dX9_clock_93 (by decide) ?_
      refine xj_loc C [3, 4, 1, 0] (L1 := [(0, .ref (ad 24)), (1, .int (xi p1)), (2, .int (xi (v2 + (xb_ishl r15 v3)))), (3, .int (xi (v3 + 1)))]) rfl ?_
      exact ih _ _ _ _ hM K
set_option maxRecDepth 100000 in
set_option maxHeartbeats 4000000 in
theorem j_X9_clock_L101 {l : Launch} {D : va_G} {k : Nat → ClassId} {ad : Nat → Nat} {o : xO} {X : xX} (C : xC D k o X cX9_clock 5 RX9 wsX9_clock (some .int) rmX9_clock) (p1 : Int) (p2 : Int) : ∀ (n : Nat) (v3 : Int) (v4 : Int) (S : xS) (r : Int × xS), m_X9_clock_L101 p1 p2 n v3 v4 S = some r → (xJ l D k o X 5 127 [(0, .ref (ad 24)), (2, .int (xi p2)), (3, .int (xi r.1))] [] (wY ad k r.2)) → xJ l D k o X 5 101 [(0, .ref (ad 24)), (1, .int (xi p1)), (2, .int (xi p2)), (3, .int (xi v3)), (4, .int (xi v4))] [] (wY ad k S) := by
  intro n
  induction n with
  | zero =>
    intro v3 v4 S r hM
    cases hM
  | succ n ih =>
    intro v3 v4 S r hM K
    unfold m_X9_clock_L101 at hM
    refine xj_iload C 4 dX9_clock_101 rfl ?_
    refine xj_bipush C (n := 16) (by decide) dX9_clock_103 ?_
    obtain ⟨g17, hM⟩ := xck_some hM
    refine xj_icmp_ge C (tgt := 127) dX9_clock_105 (by decide) ⟨g17, (by decide)⟩ (fun c18 => ?_) (fun c18 => ?_)
    · have hM := xit hM c18
      obtain rfl := Option.some.inj hM
      refine xj_loc C [0, 2, 3] (L1 := [(0, .ref (ad 24)), (2, .int (xi p2)), (3, .int (xi v3))]) rfl ?_
      exact K
    · have hM := xif hM c18
      refine xj_iload_n C 3 dX9_clock_108 rfl rfl ?_
      refine xj_aload_n C 0 dX9_clock_109 rfl rfl ?_
      refine xj_iload C 4 dX9_clock_110 rfl ?_
      refine xj_iload_n C 1 dX9_clock_112 rfl rfl ?_
      obtain ⟨r19, hRr19, hM⟩ := xbd hM
      refine xj_callV C [.int (xi v4), .int (xi p1)] [.int (xi v3)] 2 (c_X9_looked hRr19) gX9_clock_X9_looked rfl ⟨rfl, rfl⟩ hv_X9_looked ⟨Nat.le_of_ble_eq_true rfl, Nat.le_of_ble_eq_true rfl⟩ 24 (eY_24 ad k _) rfl rfl (Nat.le_of_ble_eq_true rfl) dX9_clock_113 ?_
      refine xj_iload C 4 dX9_clock_116 rfl ?_
      refine xj_ishl C dX9_clock_118 ?_
      refine xj_iadd C dX9_clock_119 ?_
      refine xj_istore_n C (L1 := [(3, .int (xi (v3 + (xb_ishl r19.1 v4)))), (0, .ref (ad 24)), (1, .int (xi p1)), (2, .int (xi p2)), (4, .int (xi v4))]) dX9_clock_120 rfl (by decide) rfl ?_
      refine xj_iinc C 4 (L1 := [(4, .int (xi (v4 + 1))), (3, .int (xi (v3 + (xb_ishl r19.1 v4)))), (0, .ref (ad 24)), (1, .int (xi p1)), (2, .int (xi p2))]) dX9_clock_121 rfl (by decide) rfl ?_
      refine xj_goto C (tgt := 101) dX9_clock_124 (by decide) ?_
      refine xj_loc C [2, 3, 4, 1, 0] (L1 := [(0, .ref (ad 24)), (1, .int (xi p1)), (2, .int (xi p2)), (3, .int (xi (v3 + (xb_ishl r19.1 v4)))), (4, .int (xi (v4 + 1)))]) rfl ?_
      exact ih _ _ _ _ hM K
set_option maxRecDepth 100000 in
set_option maxHeartbeats 4000000 in
theorem j_X9_clock_L130 {l : Launch} {D : va_G} {k : Nat → ClassId} {ad : Nat → Nat} {o : xO} {X : xX} (C : xC D k o X cX9_clock 5 RX9 wsX9_clock (some .int) rmX9_clock) (p2 : Int) (p3 : Int) : ∀ (n : Nat) (v4 : Int) (S : xS) (r : xS), m_X9_clock_L130 p2 p3 n v4 S = some r → (xJ l D k o X 5 176 [(2, .int (xi p2))] [] (wY ad k r)) → xJ l D k o X 5 130 [(0, .ref (ad 24)), (2, .int (xi p2)), (3, .int (xi p3)), (4, .int (xi v4))] [] (wY ad k S) := by
  intro n
  induction n with
  | zero =>
    intro v4 S r hM
    cases hM
  | succ n ih =>
    intro v4 S r hM K
    unfold m_X9_clock_L130 at hM
    refine xj_iload C 3 dX9_clock_130 rfl ?_
    refine xj_bipush C (n := 16) (by decide) dX9_clock_132 ?_
    obtain ⟨g21, hM⟩ := xck_some hM
    refine xj_icmp_ge C (tgt := 176) dX9_clock_134 (by decide) ⟨g21, (by decide)⟩ (fun c22 => ?_) (fun c22 => ?_)
    · have hM := xit hM c22
      obtain rfl := Option.some.inj hM
      refine xj_loc C [1] (L1 := [(2, .int (xi p2))]) rfl ?_
      exact K
    · have hM := xif hM c22
      refine xj_aload_n C 0 dX9_clock_137 rfl rfl ?_
      refine xj_get C (fun _ h => List.mem_cons_of_mem _ (List.mem_append_right _ h)) 24 (eY_24 ad k S) rfl 5 (by decide) (List.mem_of_getElem? (i := 1) rfl) (fun _ _ h => h) rfl dX9_clock_138 ?_
      refine xj_iload C 3 dX9_clock_141 rfl ?_
      refine xj_aload_n C 0 dX9_clock_143 rfl rfl ?_
      refine xj_get C (fun _ h => List.mem_cons_of_mem _ (List.mem_append_right _ h)) 24 (eY_24 ad k S) rfl 1 (by decide) (List.mem_of_getElem? (i := 2) rfl) (fun _ _ h => h) rfl dX9_clock_144 ?_
      refine xj_iload C 3 dX9_clock_147 rfl ?_
      obtain ⟨g23, hM⟩ := xck_some hM
      refine xj_zald C 1 S 1 (eY_1 ad k S) (Nat.le_of_ble_eq_true rfl) g23 dX9_clock_149 ?_
      obtain ⟨r24, hRr24, hM⟩ := xbd hM
      have Kr24 : xJ l D k o X 5 169 [(0, .ref (ad 24)), (2, .int (xi p2)), (3, .int (xi p3)), (4, .int (xi v4))] [.int (xi r24), .int (xi v4), .ref (ad 5)] (wY ad k S) := by
        refine xj_iast C 5 S 5 (eY_5 ad k S) (Nat.le_of_ble_eq_true rfl) g23 (sY_5 ad k S v4 r24) dX9_clock_169 ?_
        refine xj_iinc C 3 (L1 := [(4, .int (xi (v4 + 1))), (0, .ref (ad 24)), (2, .int (xi p2)), (3, .int (xi p3))]) dX9_clock_170 rfl (by decide) rfl ?_
        refine xj_goto C (tgt := 130) dX9_clock_173 (by decide) ?_
        refine xj_loc C [1, 2, 3, 0] (L1 := [(0, .ref (ad 24)), (2, .int (xi p2)), (3, .int (xi p3)), (4, .int (xi (v4 + 1)))]) rfl ?_
        exact ih _ _ _ hM K
      clear hM
      have hM := hRr24
      obtain ⟨g25, hM⟩ := xck_some hM
      refine xj_if_eq C (tgt := 162) dX9_clock_150 (by decide) g25 (fun c26 => ?_) (fun c26 => ?_)
      · have hM := xit hM c26
        refine xj_aload_n C 0 dX9_clock_162 rfl rfl ?_
        refine xj_get C (fun _ h => List.mem_cons_of_mem _ (List.mem_append_right _ h)) 24 (eY_24 ad k S) rfl 5 (by decide) (List.mem_of_getElem? (i := 1) rfl) (fun _ _ h => h) rfl dX9_clock_163 ?_
        refine xj_iload C 3 dX9_clock_166 rfl ?_
        refine xj_iald C 5 S 5 (eY_5 ad k S) (Nat.le_of_ble_eq_true rfl) g23 dX9_clock_168 ?_
        obtain rfl := Option.some.inj hM
        exact Kr24
      · have hM := xif hM c26
        refine xj_iload_n C 2 dX9_clock_153 rfl rfl ?_
        refine xj_iload C 3 dX9_clock_154 rfl ?_
        refine xj_ishr C dX9_clock_156 ?_
        refine xj_iconst C dX9_clock_157 ?_
        refine xj_iand C dX9_clock_158 ?_
        refine xj_goto C (tgt := 169) dX9_clock_159 (by decide) ?_
        obtain rfl := Option.some.inj hM
        exact Kr24
set_option maxRecDepth 100000 in
set_option maxHeartbeats 4000000 in
theorem c_X9_clock {l : Launch} {D : va_G} {k : Nat → ClassId} {ad : Nat → Nat} {S : xS} {p1 : Int} {res : Int × xS} (hM : m_X9_clock p1 S = some res) : xM l yX9_clock wsX9_clock rmX9_clock D k [.ref (ad 24), .int (xi p1)] (wY ad k S) (some (.int (xi res.1))) (wY ad k res.2) := by
  refine xM_of (ret := (some .int)) (by decide) rfl (Nat.le_of_ble_eq_true rfl) (fun X C => ?_)
  have C : xC D k (xo X D k (some (.int (xi res.1))) (wY ad k res.2)) X cX9_clock 5 RX9 wsX9_clock (some .int) rmX9_clock := C
  show xJ l D k (xo X D k (some (.int (xi res.1))) (wY ad k res.2)) X 5 0 [(0, .ref (ad 24)), (1, .int (xi p1))] [] (wY ad k S)
  unfold m_X9_clock at hM
  refine xj_iconst C dX9_clock_0 ?_
  refine xj_istore_n C (L1 := [(2, .int (xi 0)), (0, .ref (ad 24)), (1, .int (xi p1))]) dX9_clock_1 rfl (by decide) rfl ?_
  obtain ⟨r11, hLr11, hM⟩ := xbd hM
  refine xj_loc C [1, 2, 0] (L1 := [(0, .ref (ad 24)), (1, .int (xi p1)), (2, .int (xi 0))]) rfl ?_
  refine j_X9_clock_L2 C p1 _ _ _ _ hLr11 ?_
  refine xj_iconst C dX9_clock_62 ?_
  refine xj_istore_n C (L1 := [(2, .int (xi 0)), (0, .ref (ad 24)), (1, .int (xi p1))]) dX9_clock_63 rfl (by decide) rfl ?_
  refine xj_iconst C dX9_clock_64 ?_
  refine xj_istore_n C (L1 := [(3, .int (xi 0)), (2, .int (xi 0)), (0, .ref (ad 24)), (1, .int (xi p1))]) dX9_clock_65 rfl (by decide) rfl ?_
  obtain ⟨r16, hLr16, hM⟩ := xbd hM
  refine xj_loc C [2, 3, 1, 0] (L1 := [(0, .ref (ad 24)), (1, .int (xi p1)), (2, .int (xi 0)), (3, .int (xi 0))]) rfl ?_
  refine j_X9_clock_L66 C p1 _ _ _ _ _ hLr16 ?_
  refine xj_iconst C dX9_clock_96 ?_
  refine xj_istore_n C (L1 := [(3, .int (xi 0)), (0, .ref (ad 24)), (1, .int (xi p1)), (2, .int (xi r16.1))]) dX9_clock_97 rfl (by decide) rfl ?_
  refine xj_iconst C dX9_clock_98 ?_
  refine xj_istore C (L1 := [(4, .int (xi 0)), (3, .int (xi 0)), (0, .ref (ad 24)), (1, .int (xi p1)), (2, .int (xi r16.1))]) dX9_clock_99 (by decide) rfl ?_
  obtain ⟨r20, hLr20, hM⟩ := xbd hM
  refine xj_loc C [2, 3, 4, 1, 0] (L1 := [(0, .ref (ad 24)), (1, .int (xi p1)), (2, .int (xi r16.1)), (3, .int (xi 0)), (4, .int (xi 0))]) rfl ?_
  refine j_X9_clock_L101 C p1 r16.1 _ _ _ _ _ hLr20 ?_
  refine xj_iconst C dX9_clock_127 ?_
  refine xj_istore C (L1 := [(4, .int (xi 0)), (0, .ref (ad 24)), (2, .int (xi r16.1)), (3, .int (xi r20.1))]) dX9_clock_128 (by decide) rfl ?_
  obtain ⟨r27, hLr27, hM⟩ := xbd hM
  refine xj_loc C [1, 2, 3, 0] (L1 := [(0, .ref (ad 24)), (2, .int (xi r16.1)), (3, .int (xi r20.1)), (4, .int (xi 0))]) rfl ?_
  refine j_X9_clock_L130 C r16.1 r20.1 _ _ _ _ hLr27 ?_
  refine xj_iload_n C 0 dX9_clock_176 rfl rfl ?_
  obtain rfl := Option.some.inj hM
  exact xj_iret C rfl dX9_clock_177
def rmX9_sourceValue : Room := { frames := 0, cells := 0, slots := 0, locals := 0 }
theorem hv_X9_sourceValue : yX9_sourceValue.cls = RX9 ∧ yX9_sourceValue.cls ≠ "java/lang/invoke/MethodHandle" ∧ yX9_sourceValue.cls ≠ "java/lang/invoke/VarHandle" ∧ (parseMethodDescriptor yX9_sourceValue.desc).map (fun d => d.parameters.length) = some 2 := by decide +kernel
def m_X9_sourceValue (p1 : Int) (p2 : Int) (S : xS) : Option (Int) := xck (xr p1) (if 0 ≤ p1 then (if p1 < 10 then xck (0 ≤ p1 ∧ p1 < 10) (some (S 23 p1)) else some (xb_iand (xb_ishr p2 (p1 - 10)) 1)) else some 0)
set_option maxRecDepth 100000 in
set_option maxHeartbeats 4000000 in
theorem c_X9_sourceValue {l : Launch} {D : va_G} {k : Nat → ClassId} {ad : Nat → Nat} {S : xS} {p1 : Int} {p2 : Int} {res : Int} (hM : m_X9_sourceValue p1 p2 S = some res) : xM l yX9_sourceValue wsX9_sourceValue rmX9_sourceValue D k [.ref (ad 24), .int (xi p1), .int (xi p2)] (wY ad k S) (some (.int (xi res))) (wY ad k S) := by
  refine xM_of (ret := (some .int)) (by decide) rfl (Nat.le_of_ble_eq_true rfl) (fun X C => ?_)
  have C : xC D k (xo X D k (some (.int (xi res))) (wY ad k S)) X cX9_sourceValue 3 RX9 wsX9_sourceValue (some .int) rmX9_sourceValue := C
  show xJ l D k (xo X D k (some (.int (xi res))) (wY ad k S)) X 3 0 [(0, .ref (ad 24)), (1, .int (xi p1)), (2, .int (xi p2))] [] (wY ad k S)
  unfold m_X9_sourceValue at hM
  refine xj_iload_n C 1 dX9_sourceValue_0 rfl rfl ?_
  obtain ⟨g1, hM⟩ := xck_some hM
  refine xj_if_ge C (tgt := 8) dX9_sourceValue_1 (by decide) g1 (fun c2 => ?_) (fun c2 => ?_)
  · have hM := xit hM c2
    refine xj_iload_n C 1 dX9_sourceValue_8 rfl rfl ?_
    refine xj_bipush C (n := 10) (by decide) dX9_sourceValue_9 ?_
    refine xj_icmp_lt C (tgt := 25) dX9_sourceValue_11 (by decide) ⟨g1, (by decide)⟩ (fun c3 => ?_) (fun c3 => ?_)
    · have hM := xit hM c3
      refine xj_aload_n C 0 dX9_sourceValue_25 rfl rfl ?_
      refine xj_get C (fun _ h => List.mem_cons_of_mem _ (List.mem_append_right _ h)) 24 (eY_24 ad k S) rfl 27 (by decide) (List.mem_of_getElem? (i := 1) rfl) (fun _ _ h => h) rfl dX9_sourceValue_26 ?_
      refine xj_iload_n C 1 dX9_sourceValue_29 rfl rfl ?_
      obtain ⟨g4, hM⟩ := xck_some hM
      refine xj_iald C 23 S 23 (eY_23 ad k S) (Nat.le_of_ble_eq_true rfl) g4 dX9_sourceValue_30 ?_
      obtain rfl := Option.some.inj hM
      exact xj_iret C rfl dX9_sourceValue_31
    · have hM := xif hM c3
      refine xj_iload_n C 2 dX9_sourceValue_14 rfl rfl ?_
      refine xj_iload_n C 1 dX9_sourceValue_15 rfl rfl ?_
      refine xj_bipush C (n := 10) (by decide) dX9_sourceValue_16 ?_
      refine xj_isub C dX9_sourceValue_18 ?_
      refine xj_ishr C dX9_sourceValue_19 ?_
      refine xj_iconst C dX9_sourceValue_20 ?_
      refine xj_iand C dX9_sourceValue_21 ?_
      refine xj_goto C (tgt := 31) dX9_sourceValue_22 (by decide) ?_
      obtain rfl := Option.some.inj hM
      exact xj_iret C rfl dX9_sourceValue_31
  · have hM := xif hM c2
    refine xj_iconst C dX9_sourceValue_4 ?_
    refine xj_goto C (tgt := 31) dX9_sourceValue_5 (by decide) ?_
    obtain rfl := Option.some.inj hM
    exact xj_iret C rfl dX9_sourceValue_31
def rmX9_lookedUp : Room := { frames := 1, cells := 0, slots := 0, locals := 22 }
theorem hv_X9_lookedUp : yX9_lookedUp.cls = RX9 ∧ yX9_lookedUp.cls ≠ "java/lang/invoke/MethodHandle" ∧ yX9_lookedUp.cls ≠ "java/lang/invoke/VarHandle" ∧ (parseMethodDescriptor yX9_lookedUp.desc).map (fun d => d.parameters.length) = some 2 := by decide +kernel
def m_X9_lookedUp_L5 (p1 : Int) (p2 : Int) (S : xS) : Nat → Int → Int → Option (Int)
  | 0, _, _ => none
  | n + 1, v3, v4 => xck (xr v4) (if 3 ≤ v4 then some v3 else xck (0 ≤ ((3 * p1) + v4) ∧ ((3 * p1) + v4) < 34) ((m_X9_sourceValue (S 11 ((3 * p1) + v4)) p2 S).bind (fun r4 => m_X9_lookedUp_L5 p1 p2 S n (v3 + (xb_ishl r4 v4)) (v4 + 1))))
def m_X9_lookedUp (p1 : Int) (p2 : Int) (S : xS) : Option (Int) := (m_X9_lookedUp_L5 p1 p2 S 2000 0 0).bind (fun r5 => xck (0 ≤ p1 ∧ p1 < 10) (some (xb_iand (xb_ishr (S 6 p1) r5) 1)))
set_option maxRecDepth 100000 in
set_option maxHeartbeats 4000000 in
theorem j_X9_lookedUp_L5 {l : Launch} {D : va_G} {k : Nat → ClassId} {ad : Nat → Nat} {o : xO} {X : xX} (C : xC D k o X cX9_lookedUp 5 RX9 wsX9_lookedUp (some .int) rmX9_lookedUp) (p1 : Int) (p2 : Int) (S : xS) : ∀ (n : Nat) (v3 : Int) (v4 : Int) (r : Int), m_X9_lookedUp_L5 p1 p2 S n v3 v4 = some r → (xJ l D k o X 5 39 [(0, .ref (ad 24)), (1, .int (xi p1)), (3, .int (xi r))] [] (wY ad k S)) → xJ l D k o X 5 5 [(0, .ref (ad 24)), (1, .int (xi p1)), (2, .int (xi p2)), (3, .int (xi v3)), (4, .int (xi v4))] [] (wY ad k S) := by
  intro n
  induction n with
  | zero =>
    intro v3 v4 r hM
    cases hM
  | succ n ih =>
    intro v3 v4 r hM K
    unfold m_X9_lookedUp_L5 at hM
    refine xj_iload C 4 dX9_lookedUp_5 rfl ?_
    refine xj_iconst C dX9_lookedUp_7 ?_
    obtain ⟨g1, hM⟩ := xck_some hM
    refine xj_icmp_ge C (tgt := 39) dX9_lookedUp_8 (by decide) ⟨g1, (by decide)⟩ (fun c2 => ?_) (fun c2 => ?_)
    · have hM := xit hM c2
      obtain rfl := Option.some.inj hM
      refine xj_loc C [0, 1, 3] (L1 := [(0, .ref (ad 24)), (1, .int (xi p1)), (3, .int (xi v3))]) rfl ?_
      exact K
    · have hM := xif hM c2
      refine xj_iload_n C 3 dX9_lookedUp_11 rfl rfl ?_
      refine xj_aload_n C 0 dX9_lookedUp_12 rfl rfl ?_
      refine xj_aload_n C 0 dX9_lookedUp_13 rfl rfl ?_
      refine xj_get C (fun _ h => List.mem_cons_of_mem _ (List.mem_append_right _ h)) 24 (eY_24 ad k S) rfl 12 (by decide) (List.mem_of_getElem? (i := 1) rfl) (fun _ _ h => h) rfl dX9_lookedUp_14 ?_
      refine xj_iconst C dX9_lookedUp_17 ?_
      refine xj_iload_n C 1 dX9_lookedUp_18 rfl rfl ?_
      refine xj_imul C dX9_lookedUp_19 ?_
      refine xj_iload C 4 dX9_lookedUp_20 rfl ?_
      refine xj_iadd C dX9_lookedUp_22 ?_
      obtain ⟨g3, hM⟩ := xck_some hM
      refine xj_iald C 11 S 11 (eY_11 ad k S) (Nat.le_of_ble_eq_true rfl) g3 dX9_lookedUp_23 ?_
      refine xj_iload_n C 2 dX9_lookedUp_24 rfl rfl ?_
      obtain ⟨r4, hRr4, hM⟩ := xbd hM
      refine xj_callV C [.int (xi (S 11 ((3 * p1) + v4))), .int (xi p2)] [.int (xi v3)] 2 (c_X9_sourceValue hRr4) gX9_lookedUp_X9_sourceValue rfl ⟨rfl, rfl⟩ hv_X9_sourceValue ⟨Nat.le_of_ble_eq_true rfl, Nat.le_of_ble_eq_true rfl⟩ 24 (eY_24 ad k _) rfl rfl (Nat.le_of_ble_eq_true rfl) dX9_lookedUp_25 ?_
      refine xj_iload C 4 dX9_lookedUp_28 rfl ?_
      refine xj_ishl C dX9_lookedUp_30 ?_
      refine xj_iadd C dX9_lookedUp_31 ?_
      refine xj_istore_n C (L1 := [(3, .int (xi (v3 + (xb_ishl r4 v4)))), (0, .ref (ad 24)), (1, .int (xi p1)), (2, .int (xi p2)), (4, .int (xi v4))]) dX9_lookedUp_32 rfl (by decide) rfl ?_
      refine xj_iinc C 4 (L1 := [(4, .int (xi (v4 + 1))), (3, .int (xi (v3 + (xb_ishl r4 v4)))), (0, .ref (ad 24)), (1, .int (xi p1)), (2, .int (xi p2))]) dX9_lookedUp_33 rfl (by decide) rfl ?_
      refine xj_goto C (tgt := 5) dX9_lookedUp_36 (by decide) ?_
      refine xj_loc C [2, 3, 4, 1, 0] (L1 := [(0, .ref (ad 24)), (1, .int (xi p1)), (2, .int (xi p2)), (3, .int (xi (v3 + (xb_ishl r4 v4)))), (4, .int (xi (v4 + 1)))]) rfl ?_
      exact ih _ _ _ hM K
set_option maxRecDepth 100000 in
set_option maxHeartbeats 4000000 in
theorem c_X9_lookedUp {l : Launch} {D : va_G} {k : Nat → ClassId} {ad : Nat → Nat} {S : xS} {p1 : Int} {p2 : Int} {res : Int} (hM : m_X9_lookedUp p1 p2 S = some res) : xM l yX9_lookedUp wsX9_lookedUp rmX9_lookedUp D k [.ref (ad 24), .int (xi p1), .int (xi p2)] (wY ad k S) (some (.int (xi res))) (wY ad k S) := by
  refine xM_of (ret := (some .int)) (by decide) rfl (Nat.le_of_ble_eq_true rfl) (fun X C => ?_)
  have C : xC D k (xo X D k (some (.int (xi res))) (wY ad k S)) X cX9_lookedUp 5 RX9 wsX9_lookedUp (some .int) rmX9_lookedUp := C
  show xJ l D k (xo X D k (some (.int (xi res))) (wY ad k S)) X 5 0 [(0, .ref (ad 24)), (1, .int (xi p1)), (2, .int (xi p2))] [] (wY ad k S)
  unfold m_X9_lookedUp at hM
  refine xj_iconst C dX9_lookedUp_0 ?_
  refine xj_istore_n C (L1 := [(3, .int (xi 0)), (0, .ref (ad 24)), (1, .int (xi p1)), (2, .int (xi p2))]) dX9_lookedUp_1 rfl (by decide) rfl ?_
  refine xj_iconst C dX9_lookedUp_2 ?_
  refine xj_istore C (L1 := [(4, .int (xi 0)), (3, .int (xi 0)), (0, .ref (ad 24)), (1, .int (xi p1)), (2, .int (xi p2))]) dX9_lookedUp_3 (by decide) rfl ?_
  obtain ⟨r5, hLr5, hM⟩ := xbd hM
  refine xj_loc C [2, 3, 4, 1, 0] (L1 := [(0, .ref (ad 24)), (1, .int (xi p1)), (2, .int (xi p2)), (3, .int (xi 0)), (4, .int (xi 0))]) rfl ?_
  refine j_X9_lookedUp_L5 C p1 p2 S _ _ _ _ hLr5 ?_
  refine xj_aload_n C 0 dX9_lookedUp_39 rfl rfl ?_
  refine xj_get C (fun _ h => List.mem_cons_of_mem _ (List.mem_append_right _ h)) 24 (eY_24 ad k S) rfl 7 (by decide) (List.mem_of_getElem? (i := 2) rfl) (fun _ _ h => h) rfl dX9_lookedUp_40 ?_
  refine xj_iload_n C 1 dX9_lookedUp_43 rfl rfl ?_
  obtain ⟨g6, hM⟩ := xck_some hM
  refine xj_iald C 6 S 6 (eY_6 ad k S) (Nat.le_of_ble_eq_true rfl) g6 dX9_lookedUp_44 ?_
  refine xj_iload_n C 2 dX9_lookedUp_45 rfl rfl ?_
  refine xj_ishr C dX9_lookedUp_46 ?_
  refine xj_iconst C dX9_lookedUp_47 ?_
  refine xj_iand C dX9_lookedUp_48 ?_
  obtain rfl := Option.some.inj hM
  exact xj_iret C rfl dX9_lookedUp_49
def rmX9_run : Room := { frames := 2, cells := 0, slots := 0, locals := 48 }
theorem hv_X9_run : yX9_run.cls = RX9 ∧ yX9_run.cls ≠ "java/lang/invoke/MethodHandle" ∧ yX9_run.cls ≠ "java/lang/invoke/VarHandle" ∧ (parseMethodDescriptor yX9_run.desc).map (fun d => d.parameters.length) = some 1 := by decide +kernel
def m_X9_run_L12 (p1 : Int) : Nat → Int → xS → Option (xS)
  | 0, _, _ => none
  | n + 1, v2, S => xck (xr v2 ∧ xr (S 50 0)) (if (S 50 0) ≤ v2 then some S else xck (0 ≤ v2 ∧ v2 < 10) ((xck (xr (S 7 v2)) (if (S 7 v2) = 0 then some 0 else some (S 9 v2))).bind (fun r7 => m_X9_run_L12 p1 n (v2 + 1) (xup S 23 v2 r7))))
def m_X9_run_L61 (p1 : Int) (p2 : Int) : Nat → Int → xS → Option (xS)
  | 0, _, _ => none
  | n + 1, v3, S => xck (xr v3 ∧ xr (S 50 0)) (if (S 50 0) ≤ v3 then some S else xck (0 ≤ v3 ∧ v3 < 10) ((xck (xr (S 7 v3)) (if (S 7 v3) = 0 then (m_X9_lookedUp v3 p1 S).bind (fun r19 => some r19) else some (S 9 v3))).bind (fun r16 => m_X9_run_L61 p1 p2 n (v3 + 1) (xup S 23 v3 r16))))
def m_X9_run_L53 (p1 : Int) : Nat → Int → xS → Option (xS)
  | 0, _, _ => none
  | n + 1, v2, S => xck (xr v2) (if 10 ≤ v2 then some S else (m_X9_run_L61 p1 v2 2000 0 S).bind (fun r20 => m_X9_run_L53 p1 n (v2 + 1) r20))
def m_X9_run_L115 (p1 : Int) (S : xS) : Nat → Int → Int → Option (Int)
  | 0, _, _ => none
  | n + 1, v2, v3 => xck (xr v3) (if 4 ≤ v3 then some v2 else xck (0 ≤ (30 + v3) ∧ (30 + v3) < 34) ((m_X9_sourceValue (S 11 (30 + v3)) p1 S).bind (fun r25 => m_X9_run_L115 p1 S n (v2 + (xb_ishl r25 v3)) (v3 + 1))))
def m_X9_run_L150 (p1 : Int) (p2 : Int) (S : xS) : Nat → Int → Int → Option (Int)
  | 0, _, _ => none
  | n + 1, v3, v4 => xck (xr v4 ∧ xr (S 50 0)) (if (S 50 0) ≤ v4 then some v3 else (m_X9_lookedUp v4 p1 S).bind (fun r29 => m_X9_run_L150 p1 p2 S n (v3 + (xb_ishl r29 v4)) (v4 + 1)))
def m_X9_run_L181 (p2 : Int) (p3 : Int) : Nat → Int → xS → Option (xS)
  | 0, _, _ => none
  | n + 1, v4, S => xck (xr v4 ∧ xr (S 50 0)) (if (S 50 0) ≤ v4 then some S else xck (0 ≤ v4 ∧ v4 < 10) (m_X9_run_L181 p2 p3 n (v4 + 1) (xup S 9 v4 (xb_iand (xb_ishr p3 v4) 1))))
def m_X9_run (p1 : Int) (S : xS) : Option (Int × xS) := (m_X9_ring S).bind (fun r1 => xck (xr r1.1) (if r1.1 = 0 then (m_X9_run_L12 p1 2000 0 r1.2).bind (fun r10 => (m_X9_run_L53 p1 2000 0 r10).bind (fun r21 => (m_X9_run_L115 p1 r21 2000 0 0).bind (fun r26 => (m_X9_run_L150 p1 r26 r21 2000 0 0).bind (fun r30 => (m_X9_run_L181 r26 r30 2000 0 r21).bind (fun r34 => some (r26, r34)))))) else some ((-2), r1.2)))
set_option maxRecDepth 100000 in
set_option maxHeartbeats 4000000 in
theorem j_X9_run_L12 {l : Launch} {D : va_G} {k : Nat → ClassId} {ad : Nat → Nat} {o : xO} {X : xX} (C : xC D k o X cX9_run 5 RX9 wsX9_run (some .int) rmX9_run) (p1 : Int) : ∀ (n : Nat) (v2 : Int) (S : xS) (r : xS), m_X9_run_L12 p1 n v2 S = some r → (xJ l D k o X 5 51 [(0, .ref (ad 24)), (1, .int (xi p1))] [] (wY ad k r)) → xJ l D k o X 5 12 [(0, .ref (ad 24)), (1, .int (xi p1)), (2, .int (xi v2))] [] (wY ad k S) := by
  intro n
  induction n with
  | zero =>
    intro v2 S r hM
    cases hM
  | succ n ih =>
    intro v2 S r hM K
    unfold m_X9_run_L12 at hM
    refine xj_iload_n C 2 dX9_run_12 rfl rfl ?_
    refine xj_aload_n C 0 dX9_run_13 rfl rfl ?_
    refine xj_get C (v := .int (xi (S 50 0))) (fun _ h => List.mem_cons_of_mem _ (List.mem_append_right _ h)) 24 (eY_24 ad k S) rfl 6 (by decide) (List.mem_of_getElem? (i := 1) rfl) (fun _ _ h => h) rfl dX9_run_14 ?_
    obtain ⟨g4, hM⟩ := xck_some hM
    refine xj_icmp_ge C (tgt := 51) dX9_run_17 (by decide) ⟨g4.1, g4.2⟩ (fun c5 => ?_) (fun c5 => ?_)
    · have hM := xit hM c5
      obtain rfl := Option.some.inj hM
      refine xj_loc C [0, 1] (L1 := [(0, .ref (ad 24)), (1, .int (xi p1))]) rfl ?_
      exact K
    · have hM := xif hM c5
      refine xj_aload_n C 0 dX9_run_20 rfl rfl ?_
      refine xj_get C (fun _ h => List.mem_cons_of_mem _ (List.mem_append_right _ h)) 24 (eY_24 ad k S) rfl 27 (by decide) (List.mem_of_getElem? (i := 2) rfl) (fun _ _ h => h) rfl dX9_run_21 ?_
      refine xj_iload_n C 2 dX9_run_24 rfl rfl ?_
      refine xj_aload_n C 0 dX9_run_25 rfl rfl ?_
      refine xj_get C (fun _ h => List.mem_cons_of_mem _ (List.mem_append_right _ h)) 24 (eY_24 ad k S) rfl 8 (by decide) (List.mem_of_getElem? (i := 3) rfl) (fun _ _ h => h) rfl dX9_run_26 ?_
      refine xj_iload_n C 2 dX9_run_29 rfl rfl ?_
      obtain ⟨g6, hM⟩ := xck_some hM
      refine xj_zald C 7 S 7 (eY_7 ad k S) (Nat.le_of_ble_eq_true rfl) g6 dX9_run_30 ?_
      obtain ⟨r7, hRr7, hM⟩ := xbd hM
      have Kr7 : xJ l D k o X 5 44 [(0, .ref (ad 24)), (1, .int (xi p1)), (2, .int (xi v2))] [.int (xi r7), .int (xi v2), .ref (ad 23)] (wY ad k S) := by
        refine xj_iast C 23 S 23 (eY_23 ad k S) (Nat.le_of_ble_eq_true rfl) g6 (sY_23 ad k S v2 r7) dX9_run_44 ?_
        refine xj_iinc C 2 (L1 := [(2, .int (xi (v2 + 1))), (0, .ref (ad 24)), (1, .int (xi p1))]) dX9_run_45 rfl (by decide) rfl ?_
        refine xj_goto C (tgt := 12) dX9_run_48 (by decide) ?_
        refine xj_loc C [1, 2, 0] (L1 := [(0, .ref (ad 24)), (1, .int (xi p1)), (2, .int (xi (v2 + 1)))]) rfl ?_
        exact ih _ _ _ hM K
      clear hM
      have hM := hRr7
      obtain ⟨g8, hM⟩ := xck_some hM
      refine xj_if_eq C (tgt := 43) dX9_run_31 (by decide) g8 (fun c9 => ?_) (fun c9 => ?_)
      · have hM := xit hM c9
        refine xj_iconst C dX9_run_43 ?_
        obtain rfl := Option.some.inj hM
        exact Kr7
      · have hM := xif hM c9
        refine xj_aload_n C 0 dX9_run_34 rfl rfl ?_
        refine xj_get C (fun _ h => List.mem_cons_of_mem _ (List.mem_append_right _ h)) 24 (eY_24 ad k S) rfl 10 (by decide) (List.mem_of_getElem? (i := 4) rfl) (fun _ _ h => h) rfl dX9_run_35 ?_
        refine xj_iload_n C 2 dX9_run_38 rfl rfl ?_
        refine xj_iald C 9 S 9 (eY_9 ad k S) (Nat.le_of_ble_eq_true rfl) g6 dX9_run_39 ?_
        refine xj_goto C (tgt := 44) dX9_run_40 (by decide) ?_
        obtain rfl := Option.some.inj hM
        exact Kr7
set_option maxRecDepth 100000 in
set_option maxHeartbeats 4000000 in
theorem j_X9_run_L61 {l : Launch} {D : va_G} {k : Nat → ClassId} {ad : Nat → Nat} {o : xO} {X : xX} (C : xC D k o X cX9_run 5 RX9 wsX9_run (some .int) rmX9_run) (p1 : Int) (p2 : Int) : ∀ (n : Nat) (v3 : Int) (S : xS) (r : xS), m_X9_run_L61 p1 p2 n v3 S = some r → (xJ l D k o X 5 105 [(0, .ref (ad 24)), (1, .int (xi p1)), (2, .int (xi p2))] [] (wY ad k r)) → xJ l D k o X 5 61 [(0, .ref (ad 24)), (1, .int (xi p1)), (2, .int (xi p2)), (3, .int (xi v3))] [] (wY ad k S) := by
  intro n
  induction n with
  | zero =>
    intro v3 S r hM
    cases hM
  | succ n ih =>
    intro v3 S r hM K
    unfold m_X9_run_L61 at hM
    refine xj_iload_n C 3 dX9_run_61 rfl rfl ?_
    refine xj_aload_n C 0 dX9_run_62 rfl rfl ?_
    refine xj_get C (v := .int (xi (S 50 0))) (fun _ h => List.mem_cons_of_mem _ (List.mem_append_right _ h)) 24 (eY_24 ad k S) rfl 6 (by decide) (List.mem_of_getElem? (i := 1) rfl) (fun _ _ h => h) rfl dX9_run_63 ?_
    obtain ⟨g13, hM⟩ := xck_some hM
    refine xj_icmp_ge C (tgt := 105) dX9_run_66 (by decide) ⟨g13.1, g13.2⟩ (fun c14 => ?_) (fun c14 => ?_)
    · have hM := xit hM c14
      obtain rfl := Option.some.inj hM
      refine xj_loc C [0, 1, 2] (L1 := [(0, .ref (ad 24)), (1, .int (xi p1)), (2, .int (xi p2))]) rfl ?_
      exact K
    · have hM := xif hM c14
      refine xj_aload_n C 0 dX9_run_69 rfl rfl ?_
      refine xj_get C (fun _ h => List.mem_cons_of_mem _ (List.mem_append_right _ h)) 24 (eY_24 ad k S) rfl 27 (by decide) (List.mem_of_getElem? (i := 2) rfl) (fun _ _ h => h) rfl dX9_run_70 ?_
      refine xj_iload_n C 3 dX9_run_73 rfl rfl ?_
      refine xj_aload_n C 0 dX9_run_74 rfl rfl ?_
      refine xj_get C (fun _ h => List.mem_cons_of_mem _ (List.mem_append_right _ h)) 24 (eY_24 ad k S) rfl 8 (by decide) (List.mem_of_getElem? (i := 3) rfl) (fun _ _ h => h) rfl dX9_run_75 ?_
      refine xj_iload_n C 3 dX9_run_78 rfl rfl ?_
      obtain ⟨g15, hM⟩ := xck_some hM
      refine xj_zald C 7 S 7 (eY_7 ad k S) (Nat.le_of_ble_eq_true rfl) g15 dX9_run_79 ?_
      obtain ⟨r16, hRr16, hM⟩ := xbd hM
      have Kr16 : xJ l D k o X 5 98 [(0, .ref (ad 24)), (1, .int (xi p1)), (2, .int (xi p2)), (3, .int (xi v3))] [.int (xi r16), .int (xi v3), .ref (ad 23)] (wY ad k S) := by
        refine xj_iast C 23 S 23 (eY_23 ad k S) (Nat.le_of_ble_eq_true rfl) g15 (sY_23 ad k S v3 r16) dX9_run_98 ?_
        refine xj_iinc C 3 (L1 := [(3, .int (xi (v3 + 1))), (0, .ref (ad 24)), (1, .int (xi p1)), (2, .int (xi p2))]) dX9_run_99 rfl (by decide) rfl ?_
        refine xj_goto C (tgt := 61) dX9_run_102 (by decide) ?_
        refine xj_loc C [1, 2, 3, 0] (L1 := [(0, .ref (ad 24)), (1, .int (xi p1)), (2, .int (xi p2)), (3, .int (xi (v3 + 1)))]) rfl ?_
        exact ih _ _ _ hM K
      clear hM
      have hM := hRr16
      obtain ⟨g17, hM⟩ := xck_some hM
      refine xj_if_eq C (tgt := 92) dX9_run_80 (by decide) g17 (fun c18 => ?_) (fun c18 => ?_)
      · have hM := xit hM c18
        refine xj_aload_n C 0 dX9_run_92 rfl rfl ?_
        refine xj_iload_n C 3 dX9_run_93 rfl rfl ?_
        refine xj_iload_n C 1 dX9_run_94 rfl rfl ?_
        obtain ⟨r19, hRr19, hM⟩ := xbd hM
        refine xj_callV C [.int (xi v3), .int (xi p1)] [.int (xi v3), .ref (ad 23)] 2 (c_X9_lookedUp hRr19) gX9_run_X9_lookedUp rfl ⟨rfl, rfl⟩ hv_X9_lookedUp ⟨Nat.le_of_ble_eq_true rfl, Nat.le_of_ble_eq_true rfl⟩ 24 (eY_24 ad k _) rfl rfl (Nat.le_of_ble_eq_true rfl) dX9_run_95 ?_
        obtain rfl := Option.some.inj hM
        exact Kr16
      · have hM := xif hM c18
        refine xj_aload_n C 0 dX9_run_83 rfl rfl ?_
        refine xj_get C (fun _ h => List.mem_cons_of_mem _ (List.mem_append_right _ h)) 24 (eY_24 ad k S) rfl 10 (by decide) (List.mem_of_getElem? (i := 4) rfl) (fun _ _ h => h) rfl dX9_run_84 ?_
        refine xj_iload_n C 3 dX9_run_87 rfl rfl ?_
        refine xj_iald C 9 S 9 (eY_9 ad k S) (Nat.le_of_ble_eq_true rfl) g15 dX9_run_88 ?_
        refine xj_goto C (tgt := 98) dX9_run_89 (by decide) ?_
        obtain rfl := Option.some.inj hM
        exact Kr16
set_option maxRecDepth 100000 in
set_option maxHeartbeats 4000000 in
theorem j_X9_run_L53 {l : Launch} {D : va_G} {k : Nat → ClassId} {ad : Nat → Nat} {o : xO} {X : xX} (C : xC D k o X cX9_run 5 RX9 wsX9_run (some .int) rmX9_run) (p1 : Int) : ∀ (n : Nat) (v2 : Int) (S : xS) (r : xS), m_X9_run_L53 p1 n v2 S = some r → (xJ l D k o X 5 111 [(0, .ref (ad 24)), (1, .int (xi p1))] [] (wY ad k r)) → xJ l D k o X 5 53 [(0, .ref (ad 24)), (1, .int (xi p1)), (2, .int (xi v2))] [] (wY ad k S) := by
  intro n
  induction n with
  | zero =>
    intro v2 S r hM
    cases hM
  | succ n ih =>
    intro v2 S r hM K
    unfold m_X9_run_L53 at hM
    refine xj_iload_n C 2 dX9_run_53 rfl rfl ?_
    refine xj_bipush C (n := 10) (by decide) dX9_run_54 ?_
    obtain ⟨g11, hM⟩ := xck_some hM
    refine xj_icmp_ge C (tgt := 111) dX9_run_56 (by decide) ⟨g11, (by decide)⟩ (fun c12 => ?_) (fun c12 => ?_)
    · have hM := xit hM c12
      obtain rfl := Option.some.inj hM
      refine xj_loc C [0, 1] (L1 := [(0, .ref (ad 24)), (1, .int (xi p1))]) rfl ?_
      exact K
    · have hM := xif hM c12
      refine xj_iconst C dX9_run_59 ?_
      refine xj_istore_n C (L1 := [(3, .int (xi 0)), (0, .ref (ad 24)), (1, .int (xi p1)), (2, .int (xi v2))]) dX9_run_60 rfl (by decide) rfl ?_
      obtain ⟨r20, hLr20, hM⟩ := xbd hM
      refine xj_loc C [1, 2, 3, 0] (L1 := [(0, .ref (ad 24)), (1, .int (xi p1)), (2, .int (xi v2)), (3, .int (xi 0))]) rfl ?_
      refine j_X9_run_L61 C p1 v2 _ _ _ _ hLr20 ?_
      refine xj_iinc C 2 (L1 := [(2, .int (xi (v2 + 1))), (0, .ref (ad 24)), (1, .int (xi p1))]) dX9_run_105 rfl (by decide) rfl ?_
      refine xj_goto C (tgt := 53) dX9_run_108 (by decide) ?_
      refine xj_loc C [1, 2, 0] (L1 := [(0, .ref (ad 24)), (1, .int (xi p1)), (2, .int (xi (v2 + 1)))]) rfl ?_
      exact ih _ _ _ hM K
set_option maxRecDepth 100000 in
set_option maxHeartbeats 4000000 in
theorem j_X9_run_L115 {l : Launch} {D : va_G} {k : Nat → ClassId} {ad : Nat → Nat} {o : xO} {X : xX} (C : xC D k o X cX9_run 5 RX9 wsX9_run (some .int) rmX9_run) (p1 : Int) (S : xS) : ∀ (n : Nat) (v2 : Int) (v3 : Int) (r : Int), m_X9_run_L115 p1 S n v2 v3 = some r → (xJ l D k o X 5 145 [(0, .ref (ad 24)), (1, .int (xi p1)), (2, .int (xi r))] [] (wY ad k S)) → xJ l D k o X 5 115 [(0, .ref (ad 24)), (1, .int (xi p1)), (2, .int (xi v2)), (3, .int (xi v3))] [] (wY ad k S) := by
  intro n
  induction n with
  | zero =>
    intro v2 v3 r hM
    cases hM
  | succ n ih =>
    intro v2 v3 r hM K
    unfold m_X9_run_L115 at hM
    refine xj_iload_n C 3 dX9_run_115 rfl rfl ?_
    refine xj_iconst C dX9_run_116 ?_
    obtain ⟨g22, hM⟩ := xck_some hM
    refine xj_icmp_ge C (tgt := 145) dX9_run_117 (by decide) ⟨g22, (by decide)⟩ (fun c23 => ?_) (fun c23 => ?_)
    · have hM := xit hM c23
      obtain rfl := Option.some.inj hM
      refine xj_loc C [0, 1, 2] (L1 := [(0, .ref (ad 24)), (1, .int (xi p1)), (2, .int (xi v2))]) rfl ?_
      exact K
    · have hM := xif hM c23
      refine xj_iload_n C 2 dX9_run_120 rfl rfl ?_
      refine xj_aload_n C 0 dX9_run_121 rfl rfl ?_
      refine xj_aload_n C 0 dX9_run_122 rfl rfl ?_
      refine xj_get C (fun _ h => List.mem_cons_of_mem _ (List.mem_append_right _ h)) 24 (eY_24 ad k S) rfl 12 (by decide) (List.mem_of_getElem? (i := 5) rfl) (fun _ _ h => h) rfl dX9_run_123 ?_
      refine xj_bipush C (n := 30) (by decide) dX9_run_126 ?_
      refine xj_iload_n C 3 dX9_run_128 rfl rfl ?_
      refine xj_iadd C dX9_run_129 ?_
      obtain ⟨g24, hM⟩ := xck_some hM
      refine xj_iald C 11 S 11 (eY_11 ad k S) (Nat.le_of_ble_eq_true rfl) g24 dX9_run_130 ?_
      refine xj_iload_n C 1 dX9_run_131 rfl rfl ?_
      obtain ⟨r25, hRr25, hM⟩ := xbd hM
      refine xj_callV C [.int (xi (S 11 (30 + v3))), .int (xi p1)] [.int (xi v2)] 2 (c_X9_sourceValue hRr25) gX9_run_X9_sourceValue rfl ⟨rfl, rfl⟩ hv_X9_sourceValue ⟨Nat.le_of_ble_eq_true rfl, Nat.le_of_ble_eq_true rfl⟩ 24 (eY_24 ad k _) rfl rfl (Nat.le_of_ble_eq_true rfl) dX9_run_132 ?_
      refine xj_iload_n C 3 dX9_run_135 rfl rfl ?_
      refine xj_ishl C dX9_run_136 ?_
      refine xj_iadd C dX9_run_137 ?_
      refine xj_istore_n C (L1 := [(2, .int (xi (v2 + (xb_ishl r25 v3)))), (0, .ref (ad 24)), (1, .int (xi p1)), (3, .int (xi v3))]) dX9_run_138 rfl (by decide) rfl ?_
      refine xj_iinc C 3 (L1 := [(3, .int (xi (v3 + 1))), (2, .int (xi (v2 + (xb_ishl r25 v3)))), (0, .ref (ad 24)), (1, .int (xi p1))]) dX9_run_139 rfl (by decide) rfl ?_
      refine xj_goto C (tgt := 115) dX9_run_142 (by decide) ?_
      refine xj_loc C [2, 3, 1, 0] (L1 := [(0, .ref (ad 24)), (1, .int (xi p1)), (2, .int (xi (v2 + (xb_ishl r25 v3)))), (3, .int (xi (v3 + 1)))]) rfl ?_
      exact ih _ _ _ hM K
set_option maxRecDepth 100000 in
set_option maxHeartbeats 4000000 in
theorem j_X9_run_L150 {l : Launch} {D : va_G} {k : Nat → ClassId} {ad : Nat → Nat} {o : xO} {X : xX} (C : xC D k o X cX9_run 5 RX9 wsX9_run (some .int) rmX9_run) (p1 : Int) (p2 : Int) (S : xS) : ∀ (n : Nat) (v3 : Int) (v4 : Int) (r : Int), m_X9_run_L150 p1 p2 S n v3 v4 = some r → (xJ l D k o X 5 178 [(0, .ref (ad 24)), (2, .int (xi p2)), (3, .int (xi r))] [] (wY ad k S)) → xJ l D k o X 5 150 [(0, .ref (ad 24)), (1, .int (xi p1)), (2, .int (xi p2)), (3, .int (xi v3)), (4, .int (xi v4))] [] (wY ad k S) := by
  intro n
  induction n with
  | zero =>
    intro v3 v4 r hM
    cases hM
  | succ n ih =>
    intro v3 v4 r hM K
    unfold m_X9_run_L150 at hM
    refine xj_iload C 4 dX9_run_150 rfl ?_
    refine xj_aload_n C 0 dX9_run_152 rfl rfl ?_
    refine xj_get C (v := .int (xi (S 50 0))) (fun _ h => List.mem_cons_of_mem _ (List.mem_append_right _ h)) 24 (eY_24 ad k S) rfl 6 (by decide) (List.mem_of_getElem? (i := 1) rfl) (fun _ _ h => h) rfl dX9_run_153 ?_
    obtain ⟨g27, hM⟩ := xck_some hM
    refine xj_icmp_ge C (tgt := 178) dX9_run_156 (by decide) ⟨g27.1, g27.2⟩ (fun c28 => ?_) (fun c28 => ?_)
    · have hM := xit hM c28
      obtain rfl := Option.some.inj hM
      refine xj_loc C [0, 2, 3] (L1 := [(0, .ref (ad 24)), (2, .int (xi p2)), (3, .int (xi v3))]) rfl ?_
      exact K
    · have hM := xif hM c28
      refine xj_iload_n C 3 dX9_run_159 rfl rfl ?_
      refine xj_aload_n C 0 dX9_run_160 rfl rfl ?_
      refine xj_iload C 4 dX9_run_161 rfl ?_
      refine xj_iload_n C 1 dX9_run_163 rfl rfl ?_
      obtain ⟨r29, hRr29, hM⟩ := xbd hM
      refine xj_callV C [.int (xi v4), .int (xi p1)] [.int (xi v3)] 2 (c_X9_lookedUp hRr29) gX9_run_X9_lookedUp rfl ⟨rfl, rfl⟩ hv_X9_lookedUp ⟨Nat.le_of_ble_eq_true rfl, Nat.le_of_ble_eq_true rfl⟩ 24 (eY_24 ad k _) rfl rfl (Nat.le_of_ble_eq_true rfl) dX9_run_164 ?_
      refine xj_iload C 4 dX9_run_167 rfl ?_
      refine xj_ishl C dX9_run_169 ?_
      refine xj_iadd C dX9_run_170 ?_
      refine xj_istore_n C (L1 := [(3, .int (xi (v3 + (xb_ishl r29 v4)))), (0, .ref (ad 24)), (1, .int (xi p1)), (2, .int (xi p2)), (4, .int (xi v4))]) dX9_run_171 rfl (by decide) rfl ?_
      refine xj_iinc C 4 (L1 := [(4, .int (xi (v4 + 1))), (3, .int (xi (v3 + (xb_ishl r29 v4)))), (0, .ref (ad 24)), (1, .int (xi p1)), (2, .int (xi p2))]) dX9_run_172 rfl (by decide) rfl ?_
      refine xj_goto C (tgt := 150) dX9_run_175 (by decide) ?_
      refine xj_loc C [2, 3, 4, 1, 0] (L1 := [(0, .ref (ad 24)), (1, .int (xi p1)), (2, .int (xi p2)), (3, .int (xi (v3 + (xb_ishl r29 v4)))), (4, .int (xi (v4 + 1)))]) rfl ?_
      exact ih _ _ _ hM K
set_option maxRecDepth 100000 in
set_option maxHeartbeats 4000000 in
theorem j_X9_run_L181 {l : Launch} {D : va_G} {k : Nat → ClassId} {ad : Nat → Nat} {o : xO} {X : xX} (C : xC D k o X cX9_run 5 RX9 wsX9_run (some .int) rmX9_run) (p2 : Int) (p3 : Int) : ∀ (n : Nat) (v4 : Int) (S : xS) (r : xS), m_X9_run_L181 p2 p3 n v4 S = some r → (xJ l D k o X 5 209 [(2, .int (xi p2))] [] (wY ad k r)) → xJ l D k o X 5 181 [(0, .ref (ad 24)), (2, .int (xi p2)), (3, .int (xi p3)), (4, .int (xi v4))] [] (wY ad k S) := by
  intro n
  induction n with
  | zero =>
    intro v4 S r hM
    cases hM
  | succ n ih =>
    intro v4 S r hM K
    unfold m_X9_run_L181 at hM
    refine xj_iload C 3 dX9_run_181 rfl ?_
    refine xj_aload_n C 0 dX9_run_183 rfl rfl ?_
    refine xj_get C (v := .int (xi (S 50 0))) (fun _ h => List.mem_cons_of_mem _ (List.mem_append_right _ h)) 24 (eY_24 ad k S) rfl 6 (by decide) (List.mem_of_getElem? (i := 1) rfl) (fun _ _ h => h) rfl dX9_run_184 ?_
    obtain ⟨g31, hM⟩ := xck_some hM
    refine xj_icmp_ge C (tgt := 209) dX9_run_187 (by decide) ⟨g31.1, g31.2⟩ (fun c32 => ?_) (fun c32 => ?_)
    · have hM := xit hM c32
      obtain rfl := Option.some.inj hM
      refine xj_loc C [1] (L1 := [(2, .int (xi p2))]) rfl ?_
      exact K
    · have hM := xif hM c32
      refine xj_aload_n C 0 dX9_run_190 rfl rfl ?_
      refine xj_get C (fun _ h => List.mem_cons_of_mem _ (List.mem_append_right _ h)) 24 (eY_24 ad k S) rfl 10 (by decide) (List.mem_of_getElem? (i := 4) rfl) (fun _ _ h => h) rfl dX9_run_191 ?_
      refine xj_iload C 3 dX9_run_194 rfl ?_
      refine xj_iload_n C 2 dX9_run_196 rfl rfl ?_
      refine xj_iload C 3 dX9_run_197 rfl ?_
      refine xj_ishr C dX9_run_199 ?_
      refine xj_iconst C dX9_run_200 ?_
      refine xj_iand C dX9_run_201 ?_
      obtain ⟨g33, hM⟩ := xck_some hM
      refine xj_iast C 9 S 9 (eY_9 ad k S) (Nat.le_of_ble_eq_true rfl) g33 (sY_9 ad k S v4 (xb_iand (xb_ishr p3 v4) 1)) dX9_run_202 ?_
      refine xj_iinc C 3 (L1 := [(4, .int (xi (v4 + 1))), (0, .ref (ad 24)), (2, .int (xi p2)), (3, .int (xi p3))]) dX9_run_203 rfl (by decide) rfl ?_
      refine xj_goto C (tgt := 181) dX9_run_206 (by decide) ?_
      refine xj_loc C [1, 2, 3, 0] (L1 := [(0, .ref (ad 24)), (2, .int (xi p2)), (3, .int (xi p3)), (4, .int (xi (v4 + 1)))]) rfl ?_
      exact ih _ _ _ hM K
set_option maxRecDepth 100000 in
set_option maxHeartbeats 4000000 in
theorem c_X9_run {l : Launch} {D : va_G} {k : Nat → ClassId} {ad : Nat → Nat} {S : xS} {p1 : Int} {res : Int × xS} (hM : m_X9_run p1 S = some res) : xM l yX9_run wsX9_run rmX9_run D k [.ref (ad 24), .int (xi p1)] (wY ad k S) (some (.int (xi res.1))) (wY ad k res.2) := by
  refine xM_of (ret := (some .int)) (by decide) rfl (Nat.le_of_ble_eq_true rfl) (fun X C => ?_)
  have C : xC D k (xo X D k (some (.int (xi res.1))) (wY ad k res.2)) X cX9_run 5 RX9 wsX9_run (some .int) rmX9_run := C
  show xJ l D k (xo X D k (some (.int (xi res.1))) (wY ad k res.2)) X 5 0 [(0, .ref (ad 24)), (1, .int (xi p1))] [] (wY ad k S)
  unfold m_X9_run at hM
  refine xj_aload_n C 0 dX9_run_0 rfl rfl ?_
  obtain ⟨r1, hRr1, hM⟩ := xbd hM
  refine xj_callV C [] [] 0 (c_X9_ring hRr1) gX9_run_X9_ring rfl ⟨rfl, rfl⟩ hv_X9_ring ⟨Nat.le_of_ble_eq_true rfl, Nat.le_of_ble_eq_true rfl⟩ 24 (eY_24 ad k _) rfl rfl (Nat.le_of_ble_eq_true rfl) dX9_run_1 ?_
  obtain ⟨g2, hM⟩ := xck_some hM
  refine xj_if_eq C (tgt := 10) dX9_run_4 (by decide) g2 (fun c3 => ?_) (fun c3 => ?_)
  · have hM := xit hM c3
    refine xj_iconst C dX9_run_10 ?_
    refine xj_istore_n C (L1 := [(2, .int (xi 0)), (0, .ref (ad 24)), (1, .int (xi p1))]) dX9_run_11 rfl (by decide) rfl ?_
    obtain ⟨r10, hLr10, hM⟩ := xbd hM
    refine xj_loc C [1, 2, 0] (L1 := [(0, .ref (ad 24)), (1, .int (xi p1)), (2, .int (xi 0))]) rfl ?_
    refine j_X9_run_L12 C p1 _ _ _ _ hLr10 ?_
    refine xj_iconst C dX9_run_51 ?_
    refine xj_istore_n C (L1 := [(2, .int (xi 0)), (0, .ref (ad 24)), (1, .int (xi p1))]) dX9_run_52 rfl (by decide) rfl ?_
    obtain ⟨r21, hLr21, hM⟩ := xbd hM
    refine xj_loc C [1, 2, 0] (L1 := [(0, .ref (ad 24)), (1, .int (xi p1)), (2, .int (xi 0))]) rfl ?_
    refine j_X9_run_L53 C p1 _ _ _ _ hLr21 ?_
    refine xj_iconst C dX9_run_111 ?_
    refine xj_istore_n C (L1 := [(2, .int (xi 0)), (0, .ref (ad 24)), (1, .int (xi p1))]) dX9_run_112 rfl (by decide) rfl ?_
    refine xj_iconst C dX9_run_113 ?_
    refine xj_istore_n C (L1 := [(3, .int (xi 0)), (2, .int (xi 0)), (0, .ref (ad 24)), (1, .int (xi p1))]) dX9_run_114 rfl (by decide) rfl ?_
    obtain ⟨r26, hLr26, hM⟩ := xbd hM
    refine xj_loc C [2, 3, 1, 0] (L1 := [(0, .ref (ad 24)), (1, .int (xi p1)), (2, .int (xi 0)), (3, .int (xi 0))]) rfl ?_
    refine j_X9_run_L115 C p1 r21 _ _ _ _ hLr26 ?_
    refine xj_iconst C dX9_run_145 ?_
    refine xj_istore_n C (L1 := [(3, .int (xi 0)), (0, .ref (ad 24)), (1, .int (xi p1)), (2, .int (xi r26))]) dX9_run_146 rfl (by decide) rfl ?_
    refine xj_iconst C dX9_run_147 ?_
    refine xj_istore C (L1 := [(4, .int (xi 0)), (3, .int (xi 0)), (0, .ref (ad 24)), (1, .int (xi p1)), (2, .int (xi r26))]) dX9_run_148 (by decide) rfl ?_
    obtain ⟨r30, hLr30, hM⟩ := xbd hM
    refine xj_loc C [2, 3, 4, 1, 0] (L1 := [(0, .ref (ad 24)), (1, .int (xi p1)), (2, .int (xi r26)), (3, .int (xi 0)), (4, .int (xi 0))]) rfl ?_
    refine j_X9_run_L150 C p1 r26 r21 _ _ _ _ hLr30 ?_
    refine xj_iconst C dX9_run_178 ?_
    refine xj_istore C (L1 := [(4, .int (xi 0)), (0, .ref (ad 24)), (2, .int (xi r26)), (3, .int (xi r30))]) dX9_run_179 (by decide) rfl ?_
    obtain ⟨r34, hLr34, hM⟩ := xbd hM
    refine xj_loc C [1, 2, 3, 0] (L1 := [(0, .ref (ad 24)), (2, .int (xi r26)), (3, .int (xi r30)), (4, .int (xi 0))]) rfl ?_
    refine j_X9_run_L181 C r26 r30 _ _ _ _ hLr34 ?_
    refine xj_iload_n C 0 dX9_run_209 rfl rfl ?_
    obtain rfl := Option.some.inj hM
    exact xj_iret C rfl dX9_run_210
  · have hM := xif hM c3
    refine xj_bipush C (n := (-2)) (by decide) dX9_run_7 ?_
    obtain rfl := Option.some.inj hM
    exact xj_iret C rfl dX9_run_9
