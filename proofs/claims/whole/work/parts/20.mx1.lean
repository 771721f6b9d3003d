/-! mirrors and contracts (by program: wip/whole/gen.py, mkparts.py) -/
def rmX1_isChannel : Room := { frames := 0, cells := 0, slots := 0, locals := 0 }
theorem hv_X1_isChannel : yX1_isChannel.cls ≠ "java/lang/invoke/MethodHandle" ∧ yX1_isChannel.cls ≠ "java/lang/invoke/VarHandle" ∧ (parseMethodDescriptor yX1_isChannel.desc).map (fun d => d.parameters.length) = some 1 := by decide +kernel
def m_X1_isChannel (p0 : Int) : Option (Int) := xck (xr p0) (if p0 < 0 then some 0 else (if 144 ≤ p0 then some 0 else xck (0 ≤ p0 ∧ p0 ≤ 2147483647) (xck (xr (p0 % 9)) (if (p0 % 9) = 0 then some 0 else some 1))))
set_option maxRecDepth 100000 in
set_option maxHeartbeats 4000000 in
theorem c_X1_isChannel {l : Launch} {D : va_G} {k : Nat → ClassId} {w : va_W} {p0 : Int} {res : Int} (hM : m_X1_isChannel p0 = some res) : xM l yX1_isChannel wsX1_isChannel rmX1_isChannel D k [.int (xi p0)] w (some (.int (xi res))) w := by
  refine xM_of (ret := (some .boolean)) (by decide) rfl (Nat.le_of_ble_eq_true rfl) (fun X C => ?_)
  have C : xC D k (xo X D k (some (.int (xi res))) w) X cX1_isChannel 1 RX1 wsX1_isChannel (some .boolean) rmX1_isChannel := C
  show xJ l D k (xo X D k (some (.int (xi res))) w) X 1 0 [(0, .int (xi p0))] [] w
  unfold m_X1_isChannel at hM
  refine xj_iload_n C 0 dX1_isChannel_0 rfl rfl ?_
  obtain ⟨g1, hM⟩ := xck_some hM
  refine xj_if_lt C (tgt := 22) dX1_isChannel_1 (by decide) g1 (fun c2 => ?_) (fun c2 => ?_)
  · have hM := xit hM c2
    refine xj_iconst C dX1_isChannel_22 ?_
    obtain rfl := Option.some.inj hM
    exact xj_zret (Or.inl rfl) C rfl dX1_isChannel_23
  · have hM := xif hM c2
    refine xj_iload_n C 0 dX1_isChannel_4 rfl rfl ?_
    refine xj_sipush C (n := 144) (by decide) dX1_isChannel_5 ?_
    refine xj_icmp_ge C (tgt := 22) dX1_isChannel_8 (by decide) ⟨g1, (by decide)⟩ (fun c3 => ?_) (fun c3 => ?_)
    · have hM := xit hM c3
      refine xj_iconst C dX1_isChannel_22 ?_
      obtain rfl := Option.some.inj hM
      exact xj_zret (Or.inl rfl) C rfl dX1_isChannel_23
    · have hM := xif hM c3
      refine xj_iload_n C 0 dX1_isChannel_11 rfl rfl ?_
      refine xj_bipush C (n := 9) (by decide) dX1_isChannel_12 ?_
      obtain ⟨g4, hM⟩ := xck_some hM
      refine xj_irem C ⟨g4.1, g4.2, by decide, by decide⟩ dX1_isChannel_14 ?_
      obtain ⟨g5, hM⟩ := xck_some hM
      refine xj_if_eq C (tgt := 22) dX1_isChannel_15 (by decide) g5 (fun c6 => ?_) (fun c6 => ?_)
      · have hM := xit hM c6
        refine xj_iconst C dX1_isChannel_22 ?_
        obtain rfl := Option.some.inj hM
        exact xj_zret (Or.inl rfl) C rfl dX1_isChannel_23
      · have hM := xif hM c6
        refine xj_iconst C dX1_isChannel_18 ?_
        refine xj_goto C (tgt := 23) dX1_isChannel_19 (by decide) ?_
        obtain rfl := Option.some.inj hM
        exact xj_zret (Or.inr rfl) C rfl dX1_isChannel_23
def rmX1_outletOf : Room := { frames := 0, cells := 0, slots := 0, locals := 0 }
theorem hv_X1_outletOf : yX1_outletOf.cls ≠ "java/lang/invoke/MethodHandle" ∧ yX1_outletOf.cls ≠ "java/lang/invoke/VarHandle" ∧ (parseMethodDescriptor yX1_outletOf.desc).map (fun d => d.parameters.length) = some 1 := by decide +kernel
def m_X1_outletOf (p0 : Int) : Option (Int) := some (p0 * 9)
set_option maxRecDepth 100000 in
set_option maxHeartbeats 4000000 in
theorem c_X1_outletOf {l : Launch} {D : va_G} {k : Nat → ClassId} {w : va_W} {p0 : Int} {res : Int} (hM : m_X1_outletOf p0 = some res) : xM l yX1_outletOf wsX1_outletOf rmX1_outletOf D k [.int (xi p0)] w (some (.int (xi res))) w := by
  refine xM_of (ret := (some .int)) (by decide) rfl (Nat.le_of_ble_eq_true rfl) (fun X C => ?_)
  have C : xC D k (xo X D k (some (.int (xi res))) w) X cX1_outletOf 1 RX1 wsX1_outletOf (some .int) rmX1_outletOf := C
  show xJ l D k (xo X D k (some (.int (xi res))) w) X 1 0 [(0, .int (xi p0))] [] w
  unfold m_X1_outletOf at hM
  refine xj_iload_n C 0 dX1_outletOf_0 rfl rfl ?_
  refine xj_bipush C (n := 9) (by decide) dX1_outletOf_1 ?_
  refine xj_imul C dX1_outletOf_3 ?_
  obtain rfl := Option.some.inj hM
  exact xj_iret C rfl dX1_outletOf_4
def rmX1_channelOf : Room := { frames := 0, cells := 0, slots := 0, locals := 0 }
theorem hv_X1_channelOf : yX1_channelOf.cls ≠ "java/lang/invoke/MethodHandle" ∧ yX1_channelOf.cls ≠ "java/lang/invoke/VarHandle" ∧ (parseMethodDescriptor yX1_channelOf.desc).map (fun d => d.parameters.length) = some 3 := by decide +kernel
def m_X1_channelOf (p0 : Int) (p1 : Int) (p2 : Int) : Option (Int) := some ((((p0 * 9) + 1) + (p1 * 2)) + p2)
set_option maxRecDepth 100000 in
set_option maxHeartbeats 4000000 in
theorem c_X1_channelOf {l : Launch} {D : va_G} {k : Nat → ClassId} {w : va_W} {p0 : Int} {p1 : Int} {p2 : Int} {res : Int} (hM : m_X1_channelOf p0 p1 p2 = some res) : xM l yX1_channelOf wsX1_channelOf rmX1_channelOf D k [.int (xi p0), .int (xi p1), .int (xi p2)] w (some (.int (xi res))) w := by
  refine xM_of (ret := (some .int)) (by decide) rfl (Nat.le_of_ble_eq_true rfl) (fun X C => ?_)
  have C : xC D k (xo X D k (some (.int (xi res))) w) X cX1_channelOf 3 RX1 wsX1_channelOf (some .int) rmX1_channelOf := C
  show xJ l D k (xo X D k (some (.int (xi res))) w) X 3 0 [(0, .int (xi p0)), (1, .int (xi p1)), (2, .int (xi p2))] [] w
  unfold m_X1_channelOf at hM
  refine xj_iload_n C 0 dX1_channelOf_0 rfl rfl ?_
  refine xj_bipush C (n := 9) (by decide) dX1_channelOf_1 ?_
  refine xj_imul C dX1_channelOf_3 ?_
  refine xj_iconst C dX1_channelOf_4 ?_
  refine xj_iadd C dX1_channelOf_5 ?_
  refine xj_iload_n C 1 dX1_channelOf_6 rfl rfl ?_
  refine xj_iconst C dX1_channelOf_7 ?_
  refine xj_imul C dX1_channelOf_8 ?_
  refine xj_iadd C dX1_channelOf_9 ?_
  refine xj_iload_n C 2 dX1_channelOf_10 rfl rfl ?_
  refine xj_iadd C dX1_channelOf_11 ?_
  obtain rfl := Option.some.inj hM
  exact xj_iret C rfl dX1_channelOf_12
def rmX1_outputWire : Room := { frames := 1, cells := 0, slots := 0, locals := 22 }
theorem hv_X1_outputWire : yX1_outputWire.cls ≠ "java/lang/invoke/MethodHandle" ∧ yX1_outputWire.cls ≠ "java/lang/invoke/VarHandle" ∧ (parseMethodDescriptor yX1_outputWire.desc).map (fun d => d.parameters.length) = some 1 := by decide +kernel
def m_X1_outputWire (p0 : Int) : Option (Int) := (m_X1_channelOf (((p0 * 4) + 4) - 1) 1 0).bind (fun r1 => some r1)
set_option maxRecDepth 100000 in
set_option maxHeartbeats 4000000 in
theorem c_X1_outputWire {l : Launch} {D : va_G} {k : Nat → ClassId} {w : va_W} {p0 : Int} {res : Int} (hM : m_X1_outputWire p0 = some res) : xM l yX1_outputWire wsX1_outputWire rmX1_outputWire D k [.int (xi p0)] w (some (.int (xi res))) w := by
  refine xM_of (ret := (some .int)) (by decide) rfl (Nat.le_of_ble_eq_true rfl) (fun X C => ?_)
  have C : xC D k (xo X D k (some (.int (xi res))) w) X cX1_outputWire 1 RX1 wsX1_outputWire (some .int) rmX1_outputWire := C
  show xJ l D k (xo X D k (some (.int (xi res))) w) X 1 0 [(0, .int (xi p0))] [] w
  unfold m_X1_outputWire at hM
  refine xj_iload_n C 0 dX1_outputWire_0 rfl rfl ?_
  refine xj_iconst C dX1_outputWire_1 ?_
  refine xj_imul C dX1_outputWire_2 ?_
  refine xj_iconst C dX1_outputWire_3 ?_
  refine xj_iadd C dX1_outputWire_4 ?_
  refine xj_iconst C dX1_outputWire_5 ?_
  refine xj_isub C dX1_outputWire_6 ?_
  refine xj_iconst C dX1_outputWire_7 ?_
  refine xj_iconst C dX1_outputWire_8 ?_
  obtain ⟨r1, hRr1, hM⟩ := xbd hM
  refine xj_callS C [.int (xi (((p0 * 4) + 4) - 1)), .int (xi 1), .int (xi 0)] [] 3 (c_X1_channelOf hRr1) gX1_outputWire_X1_channelOf rfl ⟨rfl, rfl⟩ hv_X1_channelOf ⟨Nat.le_of_ble_eq_true rfl, Nat.le_of_ble_eq_true rfl⟩ rfl (Nat.le_of_ble_eq_true rfl) dX1_outputWire_9 ?_
  obtain rfl := Option.some.inj hM
  exact xj_iret C rfl dX1_outputWire_12
def rmX1_beforeChannel : Room := { frames := 0, cells := 0, slots := 0, locals := 0 }
theorem hv_X1_beforeChannel : yX1_beforeChannel.cls = RX1 ∧ yX1_beforeChannel.cls ≠ "java/lang/invoke/MethodHandle" ∧ yX1_beforeChannel.cls ≠ "java/lang/invoke/VarHandle" ∧ (parseMethodDescriptor yX1_beforeChannel.desc).map (fun d => d.parameters.length) = some 2 := by decide +kernel
def m_X1_beforeChannel (p1 : Int) (p2 : Int) (S : xS) : Option (Int) := (xck (xr p1) (if p1 < 0 then some 0 else (if 144 ≤ p1 then some 0 else some 1))).bind (fun r1 => (xck (xr p2) (if p2 < 0 then some 0 else (if 5 ≤ p2 then some 0 else some 1))).bind (fun r5 => xck (xr r1) (if r1 = 0 then some (-1) else xck (xr r5) (if r5 = 0 then some (-1) else xck (0 ≤ ((p1 * 5) + p2) ∧ ((p1 * 5) + p2) < 720) (some (S 0 ((p1 * 5) + p2)))))))
set_option maxRecDepth 100000 in
set_option maxHeartbeats 4000000 in
theorem c_X1_beforeChannel {l : Launch} {D : va_G} {k : Nat → ClassId} {ad : Nat → Nat} {S : xS} {p1 : Int} {p2 : Int} {res : Int} (hM : m_X1_beforeChannel p1 p2 S = some res) : xM l yX1_beforeChannel wsX1_beforeChannel rmX1_beforeChannel D k [.ref (ad 36), .int (xi p1), .int (xi p2)] (wX ad k S) (some (.int (xi res))) (wX ad k S) := by
  refine xM_of (ret := (some .int)) (by decide) rfl (Nat.le_of_ble_eq_true rfl) (fun X C => ?_)
  have C : xC D k (xo X D k (some (.int (xi res))) (wX ad k S)) X cX1_beforeChannel 5 RX1 wsX1_beforeChannel (some .int) rmX1_beforeChannel := C
  show xJ l D k (xo X D k (some (.int (xi res))) (wX ad k S)) X 5 0 [(0, .ref (ad 36)), (1, .int (xi p1)), (2, .int (xi p2))] [] (wX ad k S)
  unfold m_X1_beforeChannel at hM
  refine xj_iload_n C 1 dX1_beforeChannel_0 rfl rfl ?_
  obtain ⟨r1, hRr1, hM⟩ := xbd hM
  have Kr1 : xJ l D k (xo X D k (some (.int (xi res))) (wX ad k S)) X 5 16 [(0, .ref (ad 36)), (1, .int (xi p1)), (2, .int (xi p2))] [.int (xi r1)] (wX ad k S) := by
    refine xj_istore_n C (L1 := [(3, .int (xi r1)), (0, .ref (ad 36)), (1, .int (xi p1)), (2, .int (xi p2))]) dX1_beforeChannel_16 rfl (by decide) rfl ?_
    refine xj_iload_n C 3 dX1_beforeChannel_17 rfl rfl ?_
    obtain ⟨r5, hRr5, hM⟩ := xbd hM
    have Kr5 : xJ l D k (xo X D k (some (.int (xi res))) (wX ad k S)) X 5 31 [(0, .ref (ad 36)), (1, .int (xi p1)), (2, .int (xi p2)), (3, .int (xi r1))] [.int (xi r5)] (wX ad k S) := by
      refine xj_istore C (L1 := [(4, .int (xi r5)), (0, .ref (ad 36)), (1, .int (xi p1)), (2, .int (xi p2)), (3, .int (xi r1))]) dX1_beforeChannel_31 (by decide) rfl ?_
      refine xj_iload_n C 4 dX1_beforeChannel_33 rfl rfl ?_
      obtain ⟨g9, hM⟩ := xck_some hM
      refine xj_if_eq C (tgt := 55) dX1_beforeChannel_34 (by decide) g9 (fun c10 => ?_) (fun c10 => ?_)
      · have hM := xit hM c10
        refine xj_iconst C dX1_beforeChannel_55 ?_
        obtain rfl := Option.some.inj hM
        exact xj_iret C rfl dX1_beforeChannel_56
      · have hM := xif hM c10
        refine xj_iload C 0 dX1_beforeChannel_37 rfl ?_
        obtain ⟨g11, hM⟩ := xck_some hM
        refine xj_if_eq C (tgt := 55) dX1_beforeChannel_39 (by decide) g11 (fun c12 => ?_) (fun c12 => ?_)
        · have hM := xit hM c12
          refine xj_iconst C dX1_beforeChannel_55 ?_
          obtain rfl := Option.some.inj hM
          exact xj_iret C rfl dX1_beforeChannel_56
        · have hM := xif hM c12
          refine xj_aload_n C 1 dX1_beforeChannel_42 rfl rfl ?_
          refine xj_get C (fun _ h => List.mem_cons_of_mem _ (List.mem_append_right _ h)) 36 (eX_36 ad k S) rfl 0 (by decide) (List.mem_of_getElem? (i := 1) rfl) (fun _ _ h => h) rfl dX1_beforeChannel_43 ?_
          refine xj_iload_n C 2 dX1_beforeChannel_46 rfl rfl ?_
          refine xj_iconst C dX1_beforeChannel_47 ?_
          refine xj_imul C dX1_beforeChannel_48 ?_
          refine xj_iload_n C 3 dX1_beforeChannel_49 rfl rfl ?_
          refine xj_iadd C dX1_beforeChannel_50 ?_
          obtain ⟨g13, hM⟩ := xck_some hM
          refine xj_iald C 0 S 0 (eX_0 ad k S) (Nat.le_of_ble_eq_true rfl) g13 dX1_beforeChannel_51 ?_
          refine xj_goto C (tgt := 56) dX1_beforeChannel_52 (by decide) ?_
          obtain rfl := Option.some.inj hM
          exact xj_iret C rfl dX1_beforeChannel_56
    clear hM
    have hM := hRr5
    obtain ⟨g6, hM⟩ := xck_some hM
    refine xj_if_lt C (tgt := 30) dX1_beforeChannel_18 (by decide) g6 (fun c7 => ?_) (fun c7 => ?_)
    · have hM := xit hM c7
      refine xj_iconst C dX1_beforeChannel_30 ?_
      obtain rfl := Option.some.inj hM
      refine xj_loc C [1, 2, 3, 0] (L1 := [(0, .ref (ad 36)), (1, .int (xi p1)), (2, .int (xi p2)), (3, .int (xi r1))]) rfl ?_
      exact Kr5
    · have hM := xif hM c7
      refine xj_iload_n C 3 dX1_beforeChannel_21 rfl rfl ?_
      refine xj_iconst C dX1_beforeChannel_22 ?_
      refine xj_icmp_ge C (tgt := 30) dX1_beforeChannel_23 (by decide) ⟨g6, (by decide)⟩ (fun c8 => ?_) (fun c8 => ?_)
      · have hM := xit hM c8
        refine xj_iconst C dX1_beforeChannel_30 ?_
        obtain rfl := Option.some.inj hM
        refine xj_loc C [1, 2, 3, 0] (L1 := [(0, .ref (ad 36)), (1, .int (xi p1)), (2, .int (xi p2)), (3, .int (xi r1))]) rfl ?_
        exact Kr5
      · have hM := xif hM c8
        refine xj_iconst C dX1_beforeChannel_26 ?_
        refine xj_goto C (tgt := 31) dX1_beforeChannel_27 (by decide) ?_
        obtain rfl := Option.some.inj hM
        refine xj_loc C [1, 2, 3, 0] (L1 := [(0, .ref (ad 36)), (1, .int (xi p1)), (2, .int (xi p2)), (3, .int (xi r1))]) rfl ?_
        exact Kr5
  clear hM
  have hM := hRr1
  obtain ⟨g2, hM⟩ := xck_some hM
  refine xj_if_lt C (tgt := 15) dX1_beforeChannel_1 (by decide) g2 (fun c3 => ?_) (fun c3 => ?_)
  · have hM := xit hM c3
    refine xj_iconst C dX1_beforeChannel_15 ?_
    obtain rfl := Option.some.inj hM
    exact Kr1
  · have hM := xif hM c3
    refine xj_iload_n C 1 dX1_beforeChannel_4 rfl rfl ?_
    refine xj_sipush C (n := 144) (by decide) dX1_beforeChannel_5 ?_
    refine xj_icmp_ge C (tgt := 15) dX1_beforeChannel_8 (by decide) ⟨g2, (by decide)⟩ (fun c4 => ?_) (fun c4 => ?_)
    · have hM := xit hM c4
      refine xj_iconst C dX1_beforeChannel_15 ?_
      obtain rfl := Option.some.inj hM
      exact Kr1
    · have hM := xif hM c4
      refine xj_iconst C dX1_beforeChannel_11 ?_
      refine xj_goto C (tgt := 16) dX1_beforeChannel_12 (by decide) ?_
      obtain rfl := Option.some.inj hM
      exact Kr1
def rmX1_beforePin : Room := { frames := 0, cells := 0, slots := 0, locals := 0 }
theorem hv_X1_beforePin : yX1_beforePin.cls = RX1 ∧ yX1_beforePin.cls ≠ "java/lang/invoke/MethodHandle" ∧ yX1_beforePin.cls ≠ "java/lang/invoke/VarHandle" ∧ (parseMethodDescriptor yX1_beforePin.desc).map (fun d => d.parameters.length) = some 2 := by decide +kernel
def m_X1_beforePin (p1 : Int) (p2 : Int) (S : xS) : Option (Int) := (xck (xr p1) (if p1 < 0 then some 0 else (if 16 ≤ p1 then some 0 else xck (xr p2) (if p2 < 0 then some 0 else (if 10 ≤ p2 then some 0 else some 1))))).bind (fun r1 => xck (xr r1) (if r1 = 0 then some (-1) else xck (0 ≤ ((p1 * 10) + p2) ∧ ((p1 * 10) + p2) < 160) (some (S 1 ((p1 * 10) + p2)))))
set_option maxRecDepth 100000 in
set_option maxHeartbeats 4000000 in
theorem c_X1_beforePin {l : Launch} {D : va_G} {k : Nat → ClassId} {ad : Nat → Nat} {S : xS} {p1 : Int} {p2 : Int} {res : Int} (hM : m_X1_beforePin p1 p2 S = some res) : xM l yX1_beforePin wsX1_beforePin rmX1_beforePin D k [.ref (ad 36), .int (xi p1), .int (xi p2)] (wX ad k S) (some (.int (xi res))) (wX ad k S) := by
  refine xM_of (ret := (some .int)) (by decide) rfl (Nat.le_of_ble_eq_true rfl) (fun X C => ?_)
  have C : xC D k (xo X D k (some (.int (xi res))) (wX ad k S)) X cX1_beforePin 4 RX1 wsX1_beforePin (some .int) rmX1_beforePin := C
  show xJ l D k (xo X D k (some (.int (xi res))) (wX ad k S)) X 4 0 [(0, .ref (ad 36)), (1, .int (xi p1)), (2, .int (xi p2))] [] (wX ad k S)
  unfold m_X1_beforePin at hM
  refine xj_iload_n C 1 dX1_beforePin_0 rfl rfl ?_
  obtain ⟨r1, hRr1, hM⟩ := xbd hM
  have Kr1 : xJ l D k (xo X D k (some (.int (xi res))) (wX ad k S)) X 4 25 [(0, .ref (ad 36)), (1, .int (xi p1)), (2, .int (xi p2))] [.int (xi r1)] (wX ad k S) := by
    refine xj_istore_n C (L1 := [(3, .int (xi r1)), (0, .ref (ad 36)), (1, .int (xi p1)), (2, .int (xi p2))]) dX1_beforePin_25 rfl (by decide) rfl ?_
    refine xj_iload_n C 0 dX1_beforePin_26 rfl rfl ?_
    obtain ⟨g8, hM⟩ := xck_some hM
    refine xj_if_eq C (tgt := 44) dX1_beforePin_27 (by decide) g8 (fun c9 => ?_) (fun c9 => ?_)
    · have hM := xit hM c9
      refine xj_iconst C dX1_beforePin_44 ?_
      obtain rfl := Option.some.inj hM
      exact xj_iret C rfl dX1_beforePin_45
    · have hM := xif hM c9
      refine xj_aload_n C 1 dX1_beforePin_30 rfl rfl ?_
      refine xj_get C (fun _ h => List.mem_cons_of_mem _ (List.mem_append_right _ h)) 36 (eX_36 ad k S) rfl 1 (by decide) (List.mem_of_getElem? (i := 1) rfl) (fun _ _ h => h) rfl dX1_beforePin_31 ?_
      refine xj_iload_n C 2 dX1_beforePin_34 rfl rfl ?_
      refine xj_bipush C (n := 10) (by decide) dX1_beforePin_35 ?_
      refine xj_imul C dX1_beforePin_37 ?_
      refine xj_iload_n C 3 dX1_beforePin_38 rfl rfl ?_
      refine xj_iadd C dX1_beforePin_39 ?_
      obtain ⟨g10, hM⟩ := xck_some hM
      refine xj_iald C 1 S 1 (eX_1 ad k S) (Nat.le_of_ble_eq_true rfl) g10 dX1_beforePin_40 ?_
      refine xj_goto C (tgt := 45) dX1_beforePin_41 (by decide) ?_
      obtain rfl := Option.some.inj hM
      exact xj_iret C rfl dX1_beforePin_45
  clear hM
  have hM := hRr1
  obtain ⟨g2, hM⟩ := xck_some hM
  refine xj_if_lt C (tgt := 24) dX1_beforePin_1 (by decide) g2 (fun c3 => ?_) (fun c3 => ?_)
  · have hM := xit hM c3
    refine xj_iconst C dX1_beforePin_24 ?_
    obtain rfl := Option.some.inj hM
    exact Kr1
  · have hM := xif hM c3
    refine xj_iload_n C 1 dX1_beforePin_4 rfl rfl ?_
    refine xj_bipush C (n := 16) (by decide) dX1_beforePin_5 ?_
    refine xj_icmp_ge C (tgt := 24) dX1_beforePin_7 (by decide) ⟨g2, (by decide)⟩ (fun c4 => ?_) (fun c4 => ?_)
    · have hM := xit hM c4
      refine xj_iconst C dX1_beforePin_24 ?_
      obtain rfl := Option.some.inj hM
      exact Kr1
    · have hM := xif hM c4
      refine xj_iload_n C 2 dX1_beforePin_10 rfl rfl ?_
      obtain ⟨g5, hM⟩ := xck_some hM
      refine xj_if_lt C (tgt := 24) dX1_beforePin_11 (by decide) g5 (fun c6 => ?_) (fun c6 => ?_)
      · have hM := xit hM c6
        refine xj_iconst C dX1_beforePin_24 ?_
        obtain rfl := Option.some.inj hM
        exact Kr1
      · have hM := xif hM c6
        refine xj_iload_n C 2 dX1_beforePin_14 rfl rfl ?_
        refine xj_bipush C (n := 10) (by decide) dX1_beforePin_15 ?_
        refine xj_icmp_ge C (tgt := 24) dX1_beforePin_17 (by decide) ⟨g5, (by decide)⟩ (fun c7 => ?_) (fun c7 => ?_)
        · have hM := xit hM c7
          refine xj_iconst C dX1_beforePin_24 ?_
          obtain rfl := Option.some.inj hM
          exact Kr1
        · have hM := xif hM c7
          refine xj_iconst C dX1_beforePin_20 ?_
          refine xj_goto C (tgt := 25) dX1_beforePin_21 (by decide) ?_
          obtain rfl := Option.some.inj hM
          exact Kr1
def rmX1_channelAfter : Room := { frames := 0, cells := 0, slots := 0, locals := 0 }
theorem hv_X1_channelAfter : yX1_channelAfter.cls = RX1 ∧ yX1_channelAfter.cls ≠ "java/lang/invoke/MethodHandle" ∧ yX1_channelAfter.cls ≠ "java/lang/invoke/VarHandle" ∧ (parseMethodDescriptor yX1_channelAfter.desc).map (fun d => d.parameters.length) = some 2 := by decide +kernel
def m_X1_channelAfter (p1 : Int) (p2 : Int) (S : xS) : Option (Int) := (xck (xr p1) (if p1 < 0 then some 0 else (if 148 ≤ p1 then some 0 else xck (xr p2) (if p2 < 0 then some 0 else some 1)))).bind (fun r1 => xck (xr r1) (if r1 = 0 then some (-1) else xck (0 ≤ p1 ∧ p1 < 148) (xck (xr p2 ∧ xr (S 3 p1)) (if (S 3 p1) ≤ p2 then some (-1) else xck (0 ≤ ((p1 * 8) + p2) ∧ ((p1 * 8) + p2) < 1184) (some (S 2 ((p1 * 8) + p2)))))))
set_option maxRecDepth 100000 in
set_option maxHeartbeats 4000000 in
theorem c_X1_channelAfter {l : Launch} {D : va_G} {k : Nat → ClassId} {ad : Nat → Nat} {S : xS} {p1 : Int} {p2 : Int} {res : Int} (hM : m_X1_channelAfter p1 p2 S = some res) : xM l yX1_channelAfter wsX1_channelAfter rmX1_channelAfter D k [.ref (ad 36), .int (xi p1), .int (xi p2)] (wX ad k S) (some (.int (xi res))) (wX ad k S) := by
  refine xM_of (ret := (some .int)) (by decide) rfl (Nat.le_of_ble_eq_true rfl) (fun X C => ?_)
  have C : xC D k (xo X D k (some (.int (xi res))) (wX ad k S)) X cX1_channelAfter 4 RX1 wsX1_channelAfter (some .int) rmX1_channelAfter := C
  show xJ l D k (xo X D k (some (.int (xi res))) (wX ad k S)) X 4 0 [(0, .ref (ad 36)), (1, .int (xi p1)), (2, .int (xi p2))] [] (wX ad k S)
  unfold m_X1_channelAfter at hM
  refine xj_iload_n C 1 dX1_channelAfter_0 rfl rfl ?_
  obtain ⟨r1, hRr1, hM⟩ := xbd hM
  have Kr1 : xJ l D k (xo X D k (some (.int (xi res))) (wX ad k S)) X 4 20 [(0, .ref (ad 36)), (1, .int (xi p1)), (2, .int (xi p2))] [.int (xi r1)] (wX ad k S) := by
    refine xj_istore_n C (L1 := [(3, .int (xi r1)), (0, .ref (ad 36)), (1, .int (xi p1)), (2, .int (xi p2))]) dX1_channelAfter_20 rfl (by decide) rfl ?_
    refine xj_iload_n C 0 dX1_channelAfter_21 rfl rfl ?_
    obtain ⟨g7, hM⟩ := xck_some hM
    refine xj_if_eq C (tgt := 49) dX1_channelAfter_22 (by decide) g7 (fun c8 => ?_) (fun c8 => ?_)
    · have hM := xit hM c8
      refine xj_iconst C dX1_channelAfter_49 ?_
      obtain rfl := Option.some.inj hM
      exact xj_iret C rfl dX1_channelAfter_50
    · have hM := xif hM c8
      refine xj_iload_n C 3 dX1_channelAfter_25 rfl rfl ?_
      refine xj_aload_n C 1 dX1_channelAfter_26 rfl rfl ?_
      refine xj_get C (fun _ h => List.mem_cons_of_mem _ (List.mem_append_right _ h)) 36 (eX_36 ad k S) rfl 3 (by decide) (List.mem_of_getElem? (i := 1) rfl) (fun _ _ h => h) rfl dX1_channelAfter_27 ?_
      refine xj_iload_n C 2 dX1_channelAfter_30 rfl rfl ?_
      obtain ⟨g9, hM⟩ := xck_some hM
      refine xj_iald C 3 S 3 (eX_3 ad k S) (Nat.le_of_ble_eq_true rfl) g9 dX1_channelAfter_31 ?_
      obtain ⟨g10, hM⟩ := xck_some hM
      refine xj_icmp_ge C (tgt := 49) dX1_channelAfter_32 (by decide) ⟨g10.1, g10.2⟩ (fun c11 => ?_) (fun c11 => ?_)
      · have hM := xit hM c11
        refine xj_iconst C dX1_channelAfter_49 ?_
        obtain rfl := Option.some.inj hM
        exact xj_iret C rfl dX1_channelAfter_50
      · have hM := xif hM c11
        refine xj_aload_n C 1 dX1_channelAfter_35 rfl rfl ?_
        refine xj_get C (fun _ h => List.mem_cons_of_mem _ (List.mem_append_right _ h)) 36 (eX_36 ad k S) rfl 2 (by decide) (List.mem_of_getElem? (i := 2) rfl) (fun _ _ h => h) rfl dX1_channelAfter_36 ?_
        refine xj_iload_n C 2 dX1_channelAfter_39 rfl rfl ?_
        refine xj_bipush C (n := 8) (by decide) dX1_channelAfter_40 ?_
        refine xj_imul C dX1_channelAfter_42 ?_
        refine xj_iload_n C 3 dX1_channelAfter_43 rfl rfl ?_
        refine xj_iadd C dX1_channelAfter_44 ?_
        obtain ⟨g12, hM⟩ := xck_some hM
        refine xj_iald C 2 S 2 (eX_2 ad k S) (Nat.le_of_ble_eq_true rfl) g12 dX1_channelAfter_45 ?_
        refine xj_goto C (tgt := 50) dX1_channelAfter_46 (by decide) ?_
        obtain rfl := Option.some.inj hM
        exact xj_iret C rfl dX1_channelAfter_50
  clear hM
  have hM := hRr1
  obtain ⟨g2, hM⟩ := xck_some hM
  refine xj_if_lt C (tgt := 19) dX1_channelAfter_1 (by decide) g2 (fun c3 => ?_) (fun c3 => ?_)
  · have hM := xit hM c3
    refine xj_iconst C dX1_channelAfter_19 ?_
    obtain rfl := Option.some.inj hM
    exact Kr1
  · have hM := xif hM c3
    refine xj_iload_n C 1 dX1_channelAfter_4 rfl rfl ?_
    refine xj_sipush C (n := 148) (by decide) dX1_channelAfter_5 ?_
    refine xj_icmp_ge C (tgt := 19) dX1_channelAfter_8 (by decide) ⟨g2, (by decide)⟩ (fun c4 => ?_) (fun c4 => ?_)
    · have hM := xit hM c4
      refine xj_iconst C dX1_channelAfter_19 ?_
      obtain rfl := Option.some.inj hM
      exact Kr1
    · have hM := xif hM c4
      refine xj_iload_n C 2 dX1_channelAfter_11 rfl rfl ?_
      obtain ⟨g5, hM⟩ := xck_some hM
      refine xj_if_lt C (tgt := 19) dX1_channelAfter_12 (by decide) g5 (fun c6 => ?_) (fun c6 => ?_)
      · have hM := xit hM c6
        refine xj_iconst C dX1_channelAfter_19 ?_
        obtain rfl := Option.some.inj hM
        exact Kr1
      · have hM := xif hM c6
        refine xj_iconst C dX1_channelAfter_15 ?_
        refine xj_goto C (tgt := 20) dX1_channelAfter_16 (by decide) ?_
        obtain rfl := Option.some.inj hM
        exact Kr1
