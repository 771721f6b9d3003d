/-! mirrors and contracts (by program: wip/whole/gen.py, mkparts.py) -/
def rmX8_cell : Room := { frames := 1, cells := 0, slots := 0, locals := 24 }
theorem hv_X8_cell : yX8_cell.cls = RX8 ∧ yX8_cell.cls ≠ "java/lang/invoke/MethodHandle" ∧ yX8_cell.cls ≠ "java/lang/invoke/VarHandle" ∧ (parseMethodDescriptor yX8_cell.desc).map (fun d => d.parameters.length) = some 3 := by decide +kernel
def m_X8_cell (p1 : Int) (p2 : Int) (p3 : Int) (S : xS) : Option (Int × xS) := (m_X0_addCell (xb_iand p1 255) p2 p3 S).bind (fun r1 => some (r1.1, r1.2))
set_option maxRecDepth 100000 in
set_option maxHeartbeats 4000000 in
theorem c_X8_cell {l : Launch} {D : va_G} {k : Nat → ClassId} {ad : Nat → Nat} {S : xS} {p1 : Int} {p2 : Int} {p3 : Int} {res : Int × xS} (hM : m_X8_cell p1 p2 p3 S = some res) : xM l yX8_cell wsX8_cell rmX8_cell D k [.ref (ad 34), .int (xi p1), .int (xi p2), .int (xi p3)] (wX ad k S) (some (.int (xi res.1))) (wX ad k res.2) := by
  refine xM_of (ret := (some .int)) (by decide) rfl (Nat.le_of_ble_eq_true rfl) (fun X C => ?_)
  have C : xC D k (xo X D k (some (.int (xi res.1))) (wX ad k res.2)) X cX8_cell 4 RX8 wsX8_cell (some .int) rmX8_cell := C
  show xJ l D k (xo X D k (some (.int (xi res.1))) (wX ad k res.2)) X 4 0 [(0, .ref (ad 34)), (1, .int (xi p1)), (2, .int (xi p2)), (3, .int (xi p3))] [] (wX ad k S)
  unfold m_X8_cell at hM
  refine xj_aload_n C 0 dX8_cell_0 rfl rfl ?_
  refine xj_get C (fun _ h => List.mem_cons_of_mem _ (List.mem_append_left _ (List.mem_append_right _ h))) 34 (eX_34 ad k S) rfl 0 (by decide) (List.mem_of_getElem? (i := 1) rfl) (fun _ _ h => h) rfl dX8_cell_1 ?_
  refine xj_iload_n C 1 dX8_cell_4 rfl rfl ?_
  refine xj_sipush C (n := 255) (by decide) dX8_cell_5 ?_
  refine xj_iand C dX8_cell_8 ?_
  refine xj_iload_n C 2 dX8_cell_9 rfl rfl ?_
  refine xj_iload_n C 3 dX8_cell_10 rfl rfl ?_
  obtain ⟨r1, hRr1, hM⟩ := xbd hM
  refine xj_callV C [.int (xi (xb_iand p1 255)), .int (xi p2), .int (xi p3)] [] 3 (c_X0_addCell hRr1) gX8_cell_X0_addCell rfl ⟨rfl, rfl⟩ hv_X0_addCell ⟨Nat.le_of_ble_eq_true rfl, Nat.le_of_ble_eq_true rfl⟩ 35 (eX_35 ad k _) rfl rfl (Nat.le_of_ble_eq_true rfl) dX8_cell_11 ?_
  obtain rfl := Option.some.inj hM
  exact xj_iret C rfl dX8_cell_14
def rmX8_connect : Room := { frames := 2, cells := 0, slots := 0, locals := 44 }
theorem hv_X8_connect : yX8_connect.cls = RX8 ∧ yX8_connect.cls ≠ "java/lang/invoke/MethodHandle" ∧ yX8_connect.cls ≠ "java/lang/invoke/VarHandle" ∧ (parseMethodDescriptor yX8_connect.desc).map (fun d => d.parameters.length) = some 3 := by decide +kernel
def m_X8_connect (p1 : Int) (p2 : Int) (p3 : Int) (S : xS) : Option (Int × xS) := (m_X0_hasCell p1 S).bind (fun r1 => xck (xr r1) (if r1 = 0 then some (0, S) else xck (xr p2) (if p2 < 0 then some (0, S) else (if p2 < 3 then (m_X0_setSource ((p1 * 3) + p2) p3 S).bind (fun r7 => xck (r7.1 = 0 ∨ r7.1 = 1) (some (r7.1, r7.2))) else some (0, S)))))
set_option maxRecDepth 100000 in
set_option maxHeartbeats 4000000 in
theorem c_X8_connect {l : Launch} {D : va_G} {k : Nat → ClassId} {ad : Nat → Nat} {S : xS} {p1 : Int} {p2 : Int} {p3 : Int} {res : Int × xS} (hM : m_X8_connect p1 p2 p3 S = some res) : xM l yX8_connect wsX8_connect rmX8_connect D k [.ref (ad 34), .int (xi p1), .int (xi p2), .int (xi p3)] (wX ad k S) (some (.int (xi res.1))) (wX ad k res.2) := by
  refine xM_of (ret := (some .boolean)) (by decide) rfl (Nat.le_of_ble_eq_true rfl) (fun X C => ?_)
  have C : xC D k (xo X D k (some (.int (xi res.1))) (wX ad k res.2)) X cX8_connect 4 RX8 wsX8_connect (some .boolean) rmX8_connect := C
  show xJ l D k (xo X D k (some (.int (xi res.1))) (wX ad k res.2)) X 4 0 [(0, .ref (ad 34)), (1, .int (xi p1)), (2, .int (xi p2)), (3, .int (xi p3))] [] (wX ad k S)
  unfold m_X8_connect at hM
  refine xj_aload_n C 0 dX8_connect_0 rfl rfl ?_
  refine xj_get C (fun _ h => List.mem_cons_of_mem _ (List.mem_append_left _ (List.mem_append_right _ h))) 34 (eX_34 ad k S) rfl 0 (by decide) (List.mem_of_getElem? (i := 1) rfl) (fun _ _ h => h) rfl dX8_connect_1 ?_
  refine xj_iload_n C 1 dX8_connect_4 rfl rfl ?_
  obtain ⟨r1, hRr1, hM⟩ := xbd hM
  refine xj_callV C [.int (xi p1)] [] 1 (c_X0_hasCell hRr1) gX8_connect_X0_hasCell rfl ⟨rfl, rfl⟩ hv_X0_hasCell ⟨Nat.le_of_ble_eq_true rfl, Nat.le_of_ble_eq_true rfl⟩ 35 (eX_35 ad k _) rfl rfl (Nat.le_of_ble_eq_true rfl) dX8_connect_5 ?_
  obtain ⟨g2, hM⟩ := xck_some hM
  refine xj_if_eq C (tgt := 20) dX8_connect_8 (by decide) g2 (fun c3 => ?_) (fun c3 => ?_)
  · have hM := xit hM c3
    refine xj_iconst C dX8_connect_20 ?_
    obtain rfl := Option.some.inj hM
    exact xj_zret (Or.inl rfl) C rfl dX8_connect_21
  · have hM := xif hM c3
    refine xj_iload_n C 2 dX8_connect_11 rfl rfl ?_
    obtain ⟨g4, hM⟩ := xck_some hM
    refine xj_if_lt C (tgt := 20) dX8_connect_12 (by decide) g4 (fun c5 => ?_) (fun c5 => ?_)
    · have hM := xit hM c5
      refine xj_iconst C dX8_connect_20 ?_
      obtain rfl := Option.some.inj hM
      exact xj_zret (Or.inl rfl) C rfl dX8_connect_21
    · have hM := xif hM c5
      refine xj_iload_n C 2 dX8_connect_15 rfl rfl ?_
      refine xj_iconst C dX8_connect_16 ?_
      refine xj_icmp_lt C (tgt := 22) dX8_connect_17 (by decide) ⟨g4, (by decide)⟩ (fun c6 => ?_) (fun c6 => ?_)
      · have hM := xit hM c6
        refine xj_aload_n C 0 dX8_connect_22 rfl rfl ?_
        refine xj_get C (fun _ h => List.mem_cons_of_mem _ (List.mem_append_left _ (List.mem_append_right _ h))) 34 (eX_34 ad k S) rfl 0 (by decide) (List.mem_of_getElem? (i := 1) rfl) (fun _ _ h => h) rfl dX8_connect_23 ?_
        refine xj_iload_n C 1 dX8_connect_26 rfl rfl ?_
        refine xj_iconst C dX8_connect_27 ?_
        refine xj_imul C dX8_connect_28 ?_
        refine xj_iload_n C 2 dX8_connect_29 rfl rfl ?_
        refine xj_iadd C dX8_connect_30 ?_
        refine xj_iload_n C 3 dX8_connect_31 rfl rfl ?_
        obtain ⟨r7, hRr7, hM⟩ := xbd hM
        refine xj_callV C [.int (xi ((p1 * 3) + p2)), .int (xi p3)] [] 2 (c_X0_setSource hRr7) gX8_connect_X0_setSource rfl ⟨rfl, rfl⟩ hv_X0_setSource ⟨Nat.le_of_ble_eq_true rfl, Nat.le_of_ble_eq_true rfl⟩ 35 (eX_35 ad k _) rfl rfl (Nat.le_of_ble_eq_true rfl) dX8_connect_32 ?_
        obtain ⟨g8, hM⟩ := xck_some hM
        obtain rfl := Option.some.inj hM
        exact xj_zret g8 C rfl dX8_connect_35
      · have hM := xif hM c6
        refine xj_iconst C dX8_connect_20 ?_
        obtain rfl := Option.some.inj hM
        exact xj_zret (Or.inl rfl) C rfl dX8_connect_21
def rmX8_output : Room := { frames := 2, cells := 0, slots := 0, locals := 44 }
theorem hv_X8_output : yX8_output.cls = RX8 ∧ yX8_output.cls ≠ "java/lang/invoke/MethodHandle" ∧ yX8_output.cls ≠ "java/lang/invoke/VarHandle" ∧ (parseMethodDescriptor yX8_output.desc).map (fun d => d.parameters.length) = some 2 := by decide +kernel
def m_X8_output (p1 : Int) (p2 : Int) (S : xS) : Option (Int × xS) := xck (xr p1) (if p1 < 0 then some (0, S) else (if p1 < 4 then (m_X0_setSource (30 + p1) p2 S).bind (fun r4 => xck (r4.1 = 0 ∨ r4.1 = 1) (some (r4.1, r4.2))) else some (0, S)))
set_option maxRecDepth 100000 in
set_option maxHeartbeats 4000000 in
theorem c_X8_output {l : Launch} {D : va_G} {k : Nat → ClassId} {ad : Nat → Nat} {S : xS} {p1 : Int} {p2 : Int} {res : Int × xS} (hM : m_X8_output p1 p2 S = some res) : xM l yX8_output wsX8_output rmX8_output D k [.ref (ad 34), .int (xi p1), .int (xi p2)] (wX ad k S) (some (.int (xi res.1))) (wX ad k res.2) := by
  refine xM_of (ret := (some .boolean)) (by decide) rfl (Nat.le_of_ble_eq_true rfl) (fun X C => ?_)
  have C : xC D k (xo X D k (some (.int (xi res.1))) (wX ad k res.2)) X cX8_output 3 RX8 wsX8_output (some .boolean) rmX8_output := C
  show xJ l D k (xo X D k (some (.int (xi res.1))) (wX ad k res.2)) X 3 0 [(0, .ref (ad 34)), (1, .int (xi p1)), (2, .int (xi p2))] [] (wX ad k S)
  unfold m_X8_output at hM
  refine xj_iload_n C 1 dX8_output_0 rfl rfl ?_
  obtain ⟨g1, hM⟩ := xck_some hM
  refine xj_if_lt C (tgt := 9) dX8_output_1 (by decide) g1 (fun c2 => ?_) (fun c2 => ?_)
  · have hM := xit hM c2
    refine xj_iconst C dX8_output_9 ?_
    obtain rfl := Option.some.inj hM
    exact xj_zret (Or.inl rfl) C rfl dX8_output_10
  · have hM := xif hM c2
    refine xj_iload_n C 1 dX8_output_4 rfl rfl ?_
    refine xj_iconst C dX8_output_5 ?_
    refine xj_icmp_lt C (tgt := 11) dX8_output_6 (by decide) ⟨g1, (by decide)⟩ (fun c3 => ?_) (fun c3 => ?_)
    · have hM := xit hM c3
      refine xj_aload_n C 0 dX8_output_11 rfl rfl ?_
      refine xj_get C (fun _ h => List.mem_cons_of_mem _ (List.mem_append_left _ (List.mem_append_right _ h))) 34 (eX_34 ad k S) rfl 0 (by decide) (List.mem_of_getElem? (i := 1) rfl) (fun _ _ h => h) rfl dX8_output_12 ?_
      refine xj_bipush C (n := 30) (by decide) dX8_output_15 ?_
      refine xj_iload_n C 1 dX8_output_17 rfl rfl ?_
      refine xj_iadd C dX8_output_18 ?_
      refine xj_iload_n C 2 dX8_output_19 rfl rfl ?_
      obtain ⟨r4, hRr4, hM⟩ := xbd hM
      refine xj_callV C [.int (xi (30 + p1)), .int (xi p2)] [] 2 (c_X0_setSource hRr4) gX8_output_X0_setSource rfl ⟨rfl, rfl⟩ hv_X0_setSource ⟨Nat.le_of_ble_eq_true rfl, Nat.le_of_ble_eq_true rfl⟩ 35 (eX_35 ad k _) rfl rfl (Nat.le_of_ble_eq_true rfl) dX8_output_20 ?_
      obtain ⟨g5, hM⟩ := xck_some hM
      obtain rfl := Option.some.inj hM
      exact xj_zret g5 C rfl dX8_output_23
    · have hM := xif hM c3
      refine xj_iconst C dX8_output_9 ?_
      obtain rfl := Option.some.inj hM
      exact xj_zret (Or.inl rfl) C rfl dX8_output_10
def rmX8_fix : Room := { frames := 2, cells := 0, slots := 0, locals := 44 }
theorem hv_X8_fix : yX8_fix.cls = RX8 ∧ yX8_fix.cls ≠ "java/lang/invoke/MethodHandle" ∧ yX8_fix.cls ≠ "java/lang/invoke/VarHandle" ∧ (parseMethodDescriptor yX8_fix.desc).map (fun d => d.parameters.length) = some 2 := by decide +kernel
def m_X8_fix (p1 : Int) (p2 : Int) (S : xS) : Option (Int × xS) := (m_X0_setFixed p1 p2 S).bind (fun r1 => xck (r1.1 = 0 ∨ r1.1 = 1) (some (r1.1, r1.2)))
set_option maxRecDepth 100000 in
set_option maxHeartbeats 4000000 in
theorem c_X8_fix {l : Launch} {D : va_G} {k : Nat → ClassId} {ad : Nat → Nat} {S : xS} {p1 : Int} {p2 : Int} {res : Int × xS} (hM : m_X8_fix p1 p2 S = some res) : xM l yX8_fix wsX8_fix rmX8_fix D k [.ref (ad 34), .int (xi p1), .int (xi p2)] (wX ad k S) (some (.int (xi res.1))) (wX ad k res.2) := by
  refine xM_of (ret := (some .boolean)) (by decide) rfl (Nat.le_of_ble_eq_true rfl) (fun X C => ?_)
  have C : xC D k (xo X D k (some (.int (xi res.1))) (wX ad k res.2)) X cX8_fix 3 RX8 wsX8_fix (some .boolean) rmX8_fix := C
  show xJ l D k (xo X D k (some (.int (xi res.1))) (wX ad k res.2)) X 3 0 [(0, .ref (ad 34)), (1, .int (xi p1)), (2, .int (xi p2))] [] (wX ad k S)
  unfold m_X8_fix at hM
  refine xj_aload_n C 0 dX8_fix_0 rfl rfl ?_
  refine xj_get C (fun _ h => List.mem_cons_of_mem _ (List.mem_append_left _ (List.mem_append_right _ h))) 34 (eX_34 ad k S) rfl 0 (by decide) (List.mem_of_getElem? (i := 1) rfl) (fun _ _ h => h) rfl dX8_fix_1 ?_
  refine xj_iload_n C 1 dX8_fix_4 rfl rfl ?_
  refine xj_iload_n C 2 dX8_fix_5 rfl rfl ?_
  obtain ⟨r1, hRr1, hM⟩ := xbd hM
  refine xj_callV C [.int (xi p1), .int (xi p2)] [] 2 (c_X0_setFixed hRr1) gX8_fix_X0_setFixed rfl ⟨rfl, rfl⟩ hv_X0_setFixed ⟨Nat.le_of_ble_eq_true rfl, Nat.le_of_ble_eq_true rfl⟩ 35 (eX_35 ad k _) rfl rfl (Nat.le_of_ble_eq_true rfl) dX8_fix_6 ?_
  obtain ⟨g2, hM⟩ := xck_some hM
  obtain rfl := Option.some.inj hM
  exact xj_zret g2 C rfl dX8_fix_9
def rmX8_keepBuilding : Room := { frames := 4, cells := 0, slots := 0, locals := 90 }
theorem hv_X8_keepBuilding : yX8_keepBuilding.cls = RX8 ∧ yX8_keepBuilding.cls ≠ "java/lang/invoke/MethodHandle" ∧ yX8_keepBuilding.cls ≠ "java/lang/invoke/VarHandle" ∧ (parseMethodDescriptor yX8_keepBuilding.desc).map (fun d => d.parameters.length) = some 1 := by decide +kernel
def m_X8_keepBuilding_L2 (p1 : Int) : Nat → Int → xS → Option (xS)
  | 0, _, _ => none
  | n + 1, v2, S => xck (xr v2) (if 10 ≤ v2 then some S else (m_X0_hasCell v2 S).bind (fun r3 => (xck (xr r3) (if r3 = 0 then some (-1) else (m_X3_siteOf v2 S).bind (fun r7 => some r7))).bind (fun r4 => xck (0 ≤ v2 ∧ v2 < 10) (m_X8_keepBuilding_L2 p1 n (v2 + 1) (xup S 33 v2 r4)))))
def m_X8_keepBuilding_L50 : Nat → Int → xS → Option (xS)
  | 0, _, _ => none
  | n + 1, v2, S => xck (xr v2) (if 16 ≤ v2 then some S else (m_X3_cellAt v2 S).bind (fun r12 => (m_X0_settingsOf r12 S).bind (fun r13 => (m_X4_settingsOf v2 S).bind (fun r14 => (m_X5_setBits v2 (r13 ||| r14) S).bind (fun r15 => m_X8_keepBuilding_L50 n (v2 + 1) r15)))))
def m_X8_keepBuilding (p1 : Int) (S : xS) : Option (xS) := (m_X8_keepBuilding_L2 p1 2000 0 S).bind (fun r9 => (m_X8_keepBuilding_L50 2000 0 (xup r9 52 0 p1)).bind (fun r16 => (m_X5_retrace r16).bind (fun r17 => some r17)))
set_option maxRecDepth 100000 in
set_option maxHeartbeats 4000000 in
theorem j_X8_keepBuilding_L2 {l : Launch} {D : va_G} {k : Nat → ClassId} {ad : Nat → Nat} {o : xO} {X : xX} (C : xC D k o X cX8_keepBuilding 5 RX8 wsX8_keepBuilding none rmX8_keepBuilding) (p1 : Int) : ∀ (n : Nat) (v2 : Int) (S : xS) (r : xS), m_X8_keepBuilding_L2 p1 n v2 S = some r → (xJ l D k o X 5 43 [(0, .ref (ad 34)), (1, .int (xi p1))] [] (wX ad k r)) → xJ l D k o X 5 2 [(0, .ref (ad 34)), (1, .int (xi p1)), (2, .int (xi v2))] [] (wX ad k S) := by
  intro n
  induction n with
  | zero =>
    intro v2 S r hM
    cases hM
  | succ n ih =>
    intro v2 S r hM K
    unfold m_X8_keepBuilding_L2 at hM
    refine xj_iload_n C 2 dX8_keepBuilding_2 rfl rfl ?_
    refine xj_bipush C (n := 10) (by decide) dX8_keepBuilding_3 ?_
    obtain ⟨g1, hM⟩ := xck_some hM
    refine xj_icmp_ge C (tgt := 43) dX8_keepBuilding_5 (by decide) ⟨g1, (by decide)⟩ (fun c2 => ?_) (fun c2 => ?_)
    · have hM := xit hM c2
      obtain rfl := Option.some.inj hM
      refine xj_loc C [0, 1] (L1 := [(0, .ref (ad 34)), (1, .int (xi p1))]) rfl ?_
      exact K
    · have hM := xif hM c2
      refine xj_aload_n C 0 dX8_keepBuilding_8 rfl rfl ?_
      refine xj_get C (fun _ h => List.mem_cons_of_mem _ (List.mem_append_left _ (List.mem_append_left _ (List.mem_append_left _ (List.mem_append_left _ (List.mem_append_left _ (List.mem_append_right _ h))))))) 34 (eX_34 ad k S) rfl 6 (by decide) (List.mem_of_getElem? (i := 1) rfl) (fun _ _ h => h) rfl dX8_keepBuilding_9 ?_
      refine xj_iload_n C 2 dX8_keepBuilding_12 rfl rfl ?_
      refine xj_aload_n C 0 dX8_keepBuilding_13 rfl rfl ?_
      refine xj_get C (fun _ h => List.mem_cons_of_mem _ (List.mem_append_left _ (List.mem_append_left _ (List.mem_append_left _ (List.mem_append_left _ (List.mem_append_left _ (List.mem_append_right _ h))))))) 34 (eX_34 ad k S) rfl 0 (by decide) (List.mem_of_getElem? (i := 2) rfl) (fun _ _ h => h) rfl dX8_keepBuilding_14 ?_
      refine xj_iload_n C 2 dX8_keepBuilding_17 rfl rfl ?_
      obtain ⟨r3, hRr3, hM⟩ := xbd hM
      refine xj_callV C [.int (xi v2)] [.int (xi v2), .ref (ad 33)] 1 (c_X0_hasCell hRr3) gX8_keepBuilding_X0_hasCell rfl ⟨rfl, rfl⟩ hv_X0_hasCell ⟨Nat.le_of_ble_eq_true rfl, Nat.le_of_ble_eq_true rfl⟩ 35 (eX_35 ad k _) rfl rfl (Nat.le_of_ble_eq_true rfl) dX8_keepBuilding_18 ?_
      obtain ⟨r4, hRr4, hM⟩ := xbd hM
      have Kr4 : xJ l D k o X 5 36 [(0, .ref (ad 34)), (1, .int (xi p1)), (2, .int (xi v2))] [.int (xi r4), .int (xi v2), .ref (ad 33)] (wX ad k S) := by
        obtain ⟨g8, hM⟩ := xck_some hM
        refine xj_iast C 33 S 33 (eX_33 ad k S) (Nat.le_of_ble_eq_true rfl) g8 (sX_33 ad k S v2 r4) dX8_keepBuilding_36 ?_
        refine xj_iinc C 2 (L1 := [(2, .int (xi (v2 + 1))), (0, .ref (ad 34)), (1, .int (xi p1))]) dX8_keepBuilding_37 rfl (by decide) rfl ?_
        refine xj_goto C (tgt := 2) dX8_keepBuilding_40 (by decide) ?_
        refine xj_loc C [1, 2, 0] (L1 := [(0, .ref (ad 34)), (1, .int (xi p1)), (2, .int (xi (v2 + 1)))]) rfl ?_
        exact ih _ _ _ hM K
      clear hM
      have hM := hRr4
      obtain ⟨g5, hM⟩ := xck_some hM
      refine xj_if_eq C (tgt := 35) dX8_keepBuilding_21 (by decide) g5 (fun c6 => ?_) (fun c6 => ?_)
      · have hM := xit hM c6
        refine xj_iconst C dX8_keepBuilding_35 ?_
        obtain rfl := Option.some.inj hM
        exact Kr4
      · have hM := xif hM c6
        refine xj_aload_n C 0 dX8_keepBuilding_24 rfl rfl ?_
        refine xj_get C (fun _ h => List.mem_cons_of_mem _ (List.mem_append_left _ (List.mem_append_left _ (List.mem_append_left _ (List.mem_append_left _ (List.mem_append_left _ (List.mem_append_right _ h))))))) 34 (eX_34 ad k S) rfl 2 (by decide) (List.mem_of_getElem? (i := 3) rfl) (fun _ _ h => h) rfl dX8_keepBuilding_25 ?_
        refine xj_iload_n C 2 dX8_keepBuilding_28 rfl rfl ?_
        obtain ⟨r7, hRr7, hM⟩ := xbd hM
        refine xj_callV C [.int (xi v2)] [.int (xi v2), .ref (ad 33)] 1 (c_X3_siteOf hRr7) gX8_keepBuilding_X3_siteOf rfl ⟨rfl, rfl⟩ hv_X3_siteOf ⟨Nat.le_of_ble_eq_true rfl, Nat.le_of_ble_eq_true rfl⟩ 38 (eX_38 ad k _) rfl rfl (Nat.le_of_ble_eq_true rfl) dX8_keepBuilding_29 ?_
        refine xj_goto C (tgt := 36) dX8_keepBuilding_32 (by decide) ?_
        obtain rfl := Option.some.inj hM
        exact Kr4
set_option maxRecDepth 100000 in
set_option maxHeartbeats 4000000 in
theorem j_X8_keepBuilding_L50 {l : Launch} {D : va_G} {k : Nat → ClassId} {ad : Nat → Nat} {o : xO} {X : xX} (C : xC D k o X cX8_keepBuilding 5 RX8 wsX8_keepBuilding none rmX8_keepBuilding) : ∀ (n : Nat) (v2 : Int) (S : xS) (r : xS), m_X8_keepBuilding_L50 n v2 S = some r → (xJ l D k o X 5 96 [(0, .ref (ad 34))] [] (wX ad k r)) → xJ l D k o X 5 50 [(0, .ref (ad 34)), (2, .int (xi v2))] [] (wX ad k S) := by
  intro n
  induction n with
  | zero =>
    intro v2 S r hM
    cases hM
  | succ n ih =>
    intro v2 S r hM K
    unfold m_X8_keepBuilding_L50 at hM
    refine xj_iload_n C 1 dX8_keepBuilding_50 rfl rfl ?_
    refine xj_bipush C (n := 16) (by decide) dX8_keepBuilding_51 ?_
    obtain ⟨g10, hM⟩ := xck_some hM
    refine xj_icmp_ge C (tgt := 96) dX8_keepBuilding_53 (by decide) ⟨g10, (by decide)⟩ (fun c11 => ?_) (fun c11 => ?_)
    · have hM := xit hM c11
      obtain rfl := Option.some.inj hM
      refine xj_loc C [0] (L1 := [(0, .ref (ad 34))]) rfl ?_
      exact K
    · have hM := xif hM c11
      refine xj_aload_n C 0 dX8_keepBuilding_56 rfl rfl ?_
      refine xj_get C (fun _ h => List.mem_cons_of_mem _ (List.mem_append_left _ (List.mem_append_left _ (List.mem_append_left _ (List.mem_append_left _ (List.mem_append_left _ (List.mem_append_right _ h))))))) 34 (eX_34 ad k S) rfl 0 (by decide) (List.mem_of_getElem? (i := 2) rfl) (fun _ _ h => h) rfl dX8_keepBuilding_57 ?_
      refine xj_aload_n C 0 dX8_keepBuilding_60 rfl rfl ?_
      refine xj_get C (fun _ h => List.mem_cons_of_mem _ (List.mem_append_left _ (List.mem_append_left _ (List.mem_append_left _ (List.mem_append_left _ (List.mem_append_left _ (List.mem_append_right _ h))))))) 34 (eX_34 ad k S) rfl 2 (by decide) (List.mem_of_getElem? (i := 3) rfl) (fun _ _ h => h) rfl dX8_keepBuilding_61 ?_
      refine xj_iload_n C 1 dX8_keepBuilding_64 rfl rfl ?_
      obtain ⟨r12, hRr12, hM⟩ := xbd hM
      refine xj_callV C [.int (xi v2)] [.ref (ad 35)] 1 (c_X3_cellAt hRr12) gX8_keepBuilding_X3_cellAt rfl ⟨rfl, rfl⟩ hv_X3_cellAt ⟨Nat.le_of_ble_eq_true rfl, Nat.le_of_ble_eq_true rfl⟩ 38 (eX_38 ad k _) rfl rfl (Nat.le_of_ble_eq_true rfl) dX8_keepBuilding_65 ?_
      obtain ⟨r13, hRr13, hM⟩ := xbd hM
      refine xj_callV C [.int (xi r12)] [] 1 (c_X0_settingsOf hRr13) gX8_keepBuilding_X0_settingsOf rfl ⟨rfl, rfl⟩ hv_X0_settingsOf ⟨Nat.le_of_ble_eq_true rfl, Nat.le_of_ble_eq_true rfl⟩ 35 (eX_35 ad k _) rfl rfl (Nat.le_of_ble_eq_true rfl) dX8_keepBuilding_68 ?_
      refine xj_lstore_n C (L1 := [(3, .long r13), (0, .ref (ad 34)), (2, .int (xi v2))]) dX8_keepBuilding_71 rfl (by decide) rfl ?_
      refine xj_aload_n C 1 dX8_keepBuilding_72 rfl rfl ?_
      refine xj_get C (fun _ h => List.mem_cons_of_mem _ (List.mem_append_left _ (List.mem_append_left _ (List.mem_append_left _ (List.mem_append_left _ (List.mem_append_left _ (List.mem_append_right _ h))))))) 34 (eX_34 ad k S) rfl 4 (by decide) (List.mem_of_getElem? (i := 5) rfl) (fun _ _ h => h) rfl dX8_keepBuilding_73 ?_
      refine xj_iload_n C 2 dX8_keepBuilding_76 rfl rfl ?_
      refine xj_lload_n C 0 dX8_keepBuilding_77 rfl rfl ?_
      refine xj_aload_n C 1 dX8_keepBuilding_78 rfl rfl ?_
      refine xj_get C (fun _ h => List.mem_cons_of_mem _ (List.mem_append_left _ (List.mem_append_left _ (List.mem_append_left _ (List.mem_append_left _ (List.mem_append_left _ (List.mem_append_right _ h))))))) 34 (eX_34 ad k S) rfl 3 (by decide) (List.mem_of_getElem? (i := 6) rfl) (fun _ _ h => h) rfl dX8_keepBuilding_79 ?_
      refine xj_iload_n C 2 dX8_keepBuilding_82 rfl rfl ?_
      obtain ⟨r14, hRr14, hM⟩ := xbd hM
      refine xj_callV C [.int (xi v2)] [.long r13, .int (xi v2), .ref (ad 40)] 1 (c_X4_settingsOf hRr14) gX8_keepBuilding_X4_settingsOf rfl ⟨rfl, rfl⟩ hv_X4_settingsOf ⟨Nat.le_of_ble_eq_true rfl, Nat.le_of_ble_eq_true rfl⟩ 39 (eX_39 ad k _) rfl rfl (Nat.le_of_ble_eq_true rfl) dX8_keepBuilding_83 ?_
      refine xj_lor C dX8_keepBuilding_86 ?_
      obtain ⟨r15, hRr15, hM⟩ := xbd hM
      refine xj_callV C [.int (xi v2), .long (r13 ||| r14)] [] 2 (c_X5_setBits hRr15) gX8_keepBuilding_X5_setBits rfl ⟨rfl, rfl⟩ hv_X5_setBits ⟨Nat.le_of_ble_eq_true rfl, Nat.le_of_ble_eq_true rfl⟩ 40 (eX_40 ad k _) rfl rfl (Nat.le_of_ble_eq_true rfl) dX8_keepBuilding_87 ?_
      refine xj_iinc C 2 (L1 := [(2, .int (xi (v2 + 1))), (3, .long r13), (0, .ref (ad 34))]) dX8_keepBuilding_90 rfl (by decide) rfl ?_
      refine xj_goto C (tgt := 50) dX8_keepBuilding_93 (by decide) ?_
      refine xj_loc C [2, 0] (L1 := [(0, .ref (ad 34)), (2, .int (xi (v2 + 1)))]) rfl ?_
      exact ih _ _ _ hM K
set_option maxRecDepth 100000 in
set_option maxHeartbeats 4000000 in
theorem c_X8_keepBuilding {l : Launch} {D : va_G} {k : Nat → ClassId} {ad : Nat → Nat} {S : xS} {p1 : Int} {res : xS} (hM : m_X8_keepBuilding p1 S = some res) : xM l yX8_keepBuilding wsX8_keepBuilding rmX8_keepBuilding D k [.ref (ad 34), .int (xi p1)] (wX ad k S) none (wX ad k res) := by
  refine xM_of (ret := none) (by decide) rfl (Nat.le_of_ble_eq_true rfl) (fun X C => ?_)
  have C : xC D k (xo X D k none (wX ad k res)) X cX8_keepBuilding 5 RX8 wsX8_keepBuilding none rmX8_keepBuilding := C
  show xJ l D k (xo X D k none (wX ad k res)) X 5 0 [(0, .ref (ad 34)), (1, .int (xi p1))] [] (wX ad k S)
  unfold m_X8_keepBuilding at hM
  refine xj_iconst C dX8_keepBuilding_0 ?_
  refine xj_istore_n C (L1 := [(2, .int (xi 0)), (0, .ref (ad 34)), (1, .int (xi p1))]) dX8_keepBuilding_1 rfl (by decide) rfl ?_
  obtain ⟨r9, hLr9, hM⟩ := xbd hM
  refine xj_loc C [1, 2, 0] (L1 := [(0, .ref (ad 34)), (1, .int (xi p1)), (2, .int (xi 0))]) rfl ?_
  refine j_X8_keepBuilding_L2 C p1 _ _ _ _ hLr9 ?_
  refine xj_aload_n C 0 dX8_keepBuilding_43 rfl rfl ?_
  refine xj_iload_n C 1 dX8_keepBuilding_44 rfl rfl ?_
  refine xj_put C (fun _ h => List.mem_cons_of_mem _ (List.mem_append_left _ (List.mem_append_left _ (List.mem_append_left _ (List.mem_append_left _ (List.mem_append_left _ (List.mem_append_right _ h))))))) tyX8 tyX8_ok nmX8 34 (eX_34 ad k r9) rfl 7 (by decide) (List.mem_of_getElem? (i := 4) rfl) (fun _ _ h => h) rfl (tyX8_ok 7 (by decide)) (Nat.le_of_ble_eq_true rfl) (sX_52 ad k r9 p1) dX8_keepBuilding_45 ?_
  refine xj_iconst C dX8_keepBuilding_48 ?_
  refine xj_istore_n C (L1 := [(2, .int (xi 0)), (0, .ref (ad 34)), (1, .int (xi p1))]) dX8_keepBuilding_49 rfl (by decide) rfl ?_
  obtain ⟨r16, hLr16, hM⟩ := xbd hM
  refine xj_loc C [1, 0] (L1 := [(0, .ref (ad 34)), (2, .int (xi 0))]) rfl ?_
  refine j_X8_keepBuilding_L50 C _ _ _ _ hLr16 ?_
  refine xj_aload_n C 0 dX8_keepBuilding_96 rfl rfl ?_
  refine xj_get C (fun _ h => List.mem_cons_of_mem _ (List.mem_append_left _ (List.mem_append_left _ (List.mem_append_left _ (List.mem_append_left _ (List.mem_append_left _ (List.mem_append_right _ h))))))) 34 (eX_34 ad k r16) rfl 4 (by decide) (List.mem_of_getElem? (i := 5) rfl) (fun _ _ h => h) rfl dX8_keepBuilding_97 ?_
  obtain ⟨r17, hRr17, hM⟩ := xbd hM
  refine xj_callV C [] [] 0 (c_X5_retrace hRr17) gX8_keepBuilding_X5_retrace rfl ⟨rfl, rfl⟩ hv_X5_retrace ⟨Nat.le_of_ble_eq_true rfl, Nat.le_of_ble_eq_true rfl⟩ 40 (eX_40 ad k _) rfl rfl (Nat.le_of_ble_eq_true rfl) dX8_keepBuilding_100 ?_
  obtain rfl := Option.some.inj hM
  exact xj_vret C rfl dX8_keepBuilding_103
def rmX8_build : Room := { frames := 7, cells := 0, slots := 0, locals := 152 }
theorem hv_X8_build : yX8_build.cls = RX8 ∧ yX8_build.cls ≠ "java/lang/invoke/MethodHandle" ∧ yX8_build.cls ≠ "java/lang/invoke/VarHandle" ∧ (parseMethodDescriptor yX8_build.desc).map (fun d => d.parameters.length) = some 0 := by decide +kernel
def m_X8_build (S : xS) : Option (Int × xS) := (m_X0_size S).bind (fun r1 => xck (xr r1) (if r1 = 0 then some ((-1), S) else (m_X0_hasRing S).bind (fun r4 => xck (xr r4.1) (if r4.1 = 0 then (m_X2_gather r4.2).bind (fun r7 => (m_X3_place r7).bind (fun r8 => (m_X4_route r8.2).bind (fun r9 => xck (xr r9.1) (if r9.1 ≤ 0 then some (r9.1, r9.2) else (m_X8_keepBuilding r8.1 r9.2).bind (fun r12 => some (r9.1, r12)))))) else some ((-2), r4.2)))))
set_option maxRecDepth 100000 in
set_option maxHeartbeats 4000000 in
theorem c_X8_build {l : Launch} {D : va_G} {k : Nat → ClassId} {ad : Nat → Nat} {S : xS} {res : Int × xS} (hM : m_X8_build S = some res) : xM l yX8_build wsX8_build rmX8_build D k [.ref (ad 34)] (wX ad k S) (some (.int (xi res.1))) (wX ad k res.2) := by
  refine xM_of (ret := (some .int)) (by decide) rfl (Nat.le_of_ble_eq_true rfl) (fun X C => ?_)
  have C : xC D k (xo X D k (some (.int (xi res.1))) (wX ad k res.2)) X cX8_build 3 RX8 wsX8_build (some .int) rmX8_build := C
  show xJ l D k (xo X D k (some (.int (xi res.1))) (wX ad k res.2)) X 3 0 [(0, .ref (ad 34))] [] (wX ad k S)
  unfold m_X8_build at hM
  refine xj_aload_n C 0 dX8_build_0 rfl rfl ?_
  refine xj_get C (fun _ h => List.mem_cons_of_mem _ (List.mem_append_left _ (List.mem_append_left _ (List.mem_append_left _ (List.mem_append_left _ (List.mem_append_left _ (List.mem_append_left _ (List.mem_append_left _ (List.mem_append_right _ h))))))))) 34 (eX_34 ad k S) rfl 0 (by decide) (List.mem_of_getElem? (i := 1) rfl) (fun _ _ h => h) rfl dX8_build_1 ?_
  obtain ⟨r1, hRr1, hM⟩ := xbd hM
  refine xj_callV C [] [] 0 (c_X0_size hRr1) gX8_build_X0_size rfl ⟨rfl, rfl⟩ hv_X0_size ⟨Nat.le_of_ble_eq_true rfl, Nat.le_of_ble_eq_true rfl⟩ 35 (eX_35 ad k _) rfl rfl (Nat.le_of_ble_eq_true rfl) dX8_build_4 ?_
  obtain ⟨g2, hM⟩ := xck_some hM
  refine xj_if_ne C (tgt := 12) dX8_build_7 (by decide) g2 (fun c3 => ?_) (fun c3 => ?_)
  · have hM := xif hM c3
    refine xj_aload_n C 0 dX8_build_12 rfl rfl ?_
    refine xj_get C (fun _ h => List.mem_cons_of_mem _ (List.mem_append_left _ (List.mem_append_left _ (List.mem_append_left _ (List.mem_append_left _ (List.mem_append_left _ (List.mem_append_left _ (List.mem_append_left _ (List.mem_append_right _ h))))))))) 34 (eX_34 ad k S) rfl 0 (by decide) (List.mem_of_getElem? (i := 1) rfl) (fun _ _ h => h) rfl dX8_build_13 ?_
    obtain ⟨r4, hRr4, hM⟩ := xbd hM
    refine xj_callV C [] [] 0 (c_X0_hasRing hRr4) gX8_build_X0_hasRing rfl ⟨rfl, rfl⟩ hv_X0_hasRing ⟨Nat.le_of_ble_eq_true rfl, Nat.le_of_ble_eq_true rfl⟩ 35 (eX_35 ad k _) rfl rfl (Nat.le_of_ble_eq_true rfl) dX8_build_16 ?_
    obtain ⟨g5, hM⟩ := xck_some hM
    refine xj_if_eq C (tgt := 25) dX8_build_19 (by decide) g5 (fun c6 => ?_) (fun c6 => ?_)
    · have hM := xit hM c6
      refine xj_aload_n C 0 dX8_build_25 rfl rfl ?_
      refine xj_get C (fun _ h => List.mem_cons_of_mem _ (List.mem_append_left _ (List.mem_append_left _ (List.mem_append_left _ (List.mem_append_left _ (List.mem_append_left _ (List.mem_append_left _ (List.mem_append_left _ (List.mem_append_right _ h))))))))) 34 (eX_34 ad k r4.2) rfl 1 (by decide) (List.mem_of_getElem? (i := 2) rfl) (fun _ _ h => h) rfl dX8_build_26 ?_
      refine xj_aload_n C 0 dX8_build_29 rfl rfl ?_
      refine xj_get C (fun _ h => List.mem_cons_of_mem _ (List.mem_append_left _ (List.mem_append_left _ (List.mem_append_left _ (List.mem_append_left _ (List.mem_append_left _ (List.mem_append_left _ (List.mem_append_left _ (List.mem_append_right _ h))))))))) 34 (eX_34 ad k r4.2) rfl 0 (by decide) (List.mem_of_getElem? (i := 1) rfl) (fun _ _ h => h) rfl dX8_build_30 ?_
      obtain ⟨r7, hRr7, hM⟩ := xbd hM
      refine xj_callV C [.ref (ad 35)] [] 1 (c_X2_gather hRr7) gX8_build_X2_gather rfl ⟨rfl, rfl⟩ hv_X2_gather ⟨Nat.le_of_ble_eq_true rfl, Nat.le_of_ble_eq_true rfl⟩ 37 (eX_37 ad k _) rfl rfl (Nat.le_of_ble_eq_true rfl) dX8_build_33 ?_
      refine xj_aload_n C 0 dX8_build_36 rfl rfl ?_
      refine xj_get C (fun _ h => List.mem_cons_of_mem _ (List.mem_append_left _ (List.mem_append_left _ (List.mem_append_left _ (List.mem_append_left _ (List.mem_append_left _ (List.mem_append_left _ (List.mem_append_left _ (List.mem_append_right _ h))))))))) 34 (eX_34 ad k r7) rfl 2 (by decide) (List.mem_of_getElem? (i := 3) rfl) (fun _ _ h => h) rfl dX8_build_37 ?_
      obtain ⟨r8, hRr8, hM⟩ := xbd hM
      refine xj_callV C [] [] 0 (c_X3_place hRr8) gX8_build_X3_place rfl ⟨rfl, rfl⟩ hv_X3_place ⟨Nat.le_of_ble_eq_true rfl, Nat.le_of_ble_eq_true rfl⟩ 38 (eX_38 ad k _) rfl rfl (Nat.le_of_ble_eq_true rfl) dX8_build_40 ?_
      refine xj_istore_n C (L1 := [(1, .int (xi r8.1)), (0, .ref (ad 34))]) dX8_build_43 rfl (by decide) rfl ?_
      refine xj_aload_n C 1 dX8_build_44 rfl rfl ?_
      refine xj_get C (fun _ h => List.mem_cons_of_mem _ (List.mem_append_left _ (List.mem_append_left _ (List.mem_append_left _ (List.mem_append_left _ (List.mem_append_left _ (List.mem_append_left _ (List.mem_append_left _ (List.mem_append_right _ h))))))))) 34 (eX_34 ad k r8.2) rfl 3 (by decide) (List.mem_of_getElem? (i := 4) rfl) (fun _ _ h => h) rfl dX8_build_45 ?_
      obtain ⟨r9, hRr9, hM⟩ := xbd hM
      refine xj_callV C [] [] 0 (c_X4_route hRr9) gX8_build_X4_route rfl ⟨rfl, rfl⟩ hv_X4_route ⟨Nat.le_of_ble_eq_true rfl, Nat.le_of_ble_eq_true rfl⟩ 39 (eX_39 ad k _) rfl rfl (Nat.le_of_ble_eq_true rfl) dX8_build_48 ?_
      refine xj_istore_n C (L1 := [(2, .int (xi r9.1)), (1, .int (xi r8.1)), (0, .ref (ad 34))]) dX8_build_51 rfl (by decide) rfl ?_
      refine xj_iload_n C 0 dX8_build_52 rfl rfl ?_
      obtain ⟨g10, hM⟩ := xck_some hM
      refine xj_if_le C (tgt := 61) dX8_build_53 (by decide) g10 (fun c11 => ?_) (fun c11 => ?_)
      · have hM := xit hM c11
        refine xj_iload_n C 0 dX8_build_61 rfl rfl ?_
        obtain rfl := Option.some.inj hM
        exact xj_iret C rfl dX8_build_62
      · have hM := xif hM c11
        refine xj_aload_n C 2 dX8_build_56 rfl rfl ?_
        refine xj_iload_n C 1 dX8_build_57 rfl rfl ?_
        obtain ⟨r12, hRr12, hM⟩ := xbd hM
        refine xj_callV C [.int (xi r8.1)] [] 1 (c_X8_keepBuilding hRr12) gX8_build_X8_keepBuilding rfl ⟨rfl, rfl⟩ hv_X8_keepBuilding ⟨Nat.le_of_ble_eq_true rfl, Nat.le_of_ble_eq_true rfl⟩ 34 (eX_34 ad k _) rfl rfl (Nat.le_of_ble_eq_true rfl) dX8_build_58 ?_
        refine xj_iload_n C 0 dX8_build_61 rfl rfl ?_
        obtain rfl := Option.some.inj hM
        exact xj_iret C rfl dX8_build_62
    · have hM := xif hM c6
      refine xj_bipush C (n := (-2)) (by decide) dX8_build_22 ?_
      obtain rfl := Option.some.inj hM
      exact xj_iret C rfl dX8_build_24
  · have hM := xit hM c3
    refine xj_iconst C dX8_build_10 ?_
    obtain rfl := Option.some.inj hM
    exact xj_iret C rfl dX8_build_11
def rmX8_tileOf : Room := { frames := 0, cells := 0, slots := 0, locals := 0 }
theorem hv_X8_tileOf : yX8_tileOf.cls = RX8 ∧ yX8_tileOf.cls ≠ "java/lang/invoke/MethodHandle" ∧ yX8_tileOf.cls ≠ "java/lang/invoke/VarHandle" ∧ (parseMethodDescriptor yX8_tileOf.desc).map (fun d => d.parameters.length) = some 1 := by decide +kernel
def m_X8_tileOf (p1 : Int) (S : xS) : Option (Int) := xck (xr p1) (if p1 < 0 then some (-1) else (if p1 < 10 then xck (0 ≤ p1 ∧ p1 < 10) (some (S 33 p1)) else some (-1)))
set_option maxRecDepth 100000 in
set_option maxHeartbeats 4000000 in
theorem c_X8_tileOf {l : Launch} {D : va_G} {k : Nat → ClassId} {ad : Nat → Nat} {S : xS} {p1 : Int} {res : Int} (hM : m_X8_tileOf p1 S = some res) : xM l yX8_tileOf wsX8_tileOf rmX8_tileOf D k [.ref (ad 34), .int (xi p1)] (wX ad k S) (some (.int (xi res))) (wX ad k S) := by
  refine xM_of (ret := (some .int)) (by decide) rfl (Nat.le_of_ble_eq_true rfl) (fun X C => ?_)
  have C : xC D k (xo X D k (some (.int (xi res))) (wX ad k S)) X cX8_tileOf 2 RX8 wsX8_tileOf (some .int) rmX8_tileOf := C
  show xJ l D k (xo X D k (some (.int (xi res))) (wX ad k S)) X 2 0 [(0, .ref (ad 34)), (1, .int (xi p1))] [] (wX ad k S)
  unfold m_X8_tileOf at hM
  refine xj_iload_n C 1 dX8_tileOf_0 rfl rfl ?_
  obtain ⟨g1, hM⟩ := xck_some hM
  refine xj_if_lt C (tgt := 10) dX8_tileOf_1 (by decide) g1 (fun c2 => ?_) (fun c2 => ?_)
  · have hM := xit hM c2
    refine xj_iconst C dX8_tileOf_10 ?_
    refine xj_goto C (tgt := 20) dX8_tileOf_11 (by decide) ?_
    obtain rfl := Option.some.inj hM
    exact xj_iret C rfl dX8_tileOf_20
  · have hM := xif hM c2
    refine xj_iload_n C 1 dX8_tileOf_4 rfl rfl ?_
    refine xj_bipush C (n := 10) (by decide) dX8_tileOf_5 ?_
    refine xj_icmp_lt C (tgt := 14) dX8_tileOf_7 (by decide) ⟨g1, (by decide)⟩ (fun c3 => ?_) (fun c3 => ?_)
    · have hM := xit hM c3
      refine xj_aload_n C 0 dX8_tileOf_14 rfl rfl ?_
      refine xj_get C (fun _ h => List.mem_cons_of_mem _ (List.mem_append_right _ h)) 34 (eX_34 ad k S) rfl 6 (by decide) (List.mem_of_getElem? (i := 1) rfl) (fun _ _ h => h) rfl dX8_tileOf_15 ?_
      refine xj_iload_n C 1 dX8_tileOf_18 rfl rfl ?_
      obtain ⟨g4, hM⟩ := xck_some hM
      refine xj_iald C 33 S 33 (eX_33 ad k S) (Nat.le_of_ble_eq_true rfl) g4 dX8_tileOf_19 ?_
      obtain rfl := Option.some.inj hM
      exact xj_iret C rfl dX8_tileOf_20
    · have hM := xif hM c3
      refine xj_iconst C dX8_tileOf_10 ?_
      refine xj_goto C (tgt := 20) dX8_tileOf_11 (by decide) ?_
      obtain rfl := Option.some.inj hM
      exact xj_iret C rfl dX8_tileOf_20
def rmX8_cost : Room := { frames := 0, cells := 0, slots := 0, locals := 0 }
theorem hv_X8_cost : yX8_cost.cls = RX8 ∧ yX8_cost.cls ≠ "java/lang/invoke/MethodHandle" ∧ yX8_cost.cls ≠ "java/lang/invoke/VarHandle" ∧ (parseMethodDescriptor yX8_cost.desc).map (fun d => d.parameters.length) = some 0 := by decide +kernel
def m_X8_cost (S : xS) : Option (Int) := some (S 52 0)
set_option maxRecDepth 100000 in
set_option maxHeartbeats 4000000 in
theorem c_X8_cost {l : Launch} {D : va_G} {k : Nat → ClassId} {ad : Nat → Nat} {S : xS} {res : Int} (hM : m_X8_cost S = some res) : xM l yX8_cost wsX8_cost rmX8_cost D k [.ref (ad 34)] (wX ad k S) (some (.int (xi res))) (wX ad k S) := by
  refine xM_of (ret := (some .int)) (by decide) rfl (Nat.le_of_ble_eq_true rfl) (fun X C => ?_)
  have C : xC D k (xo X D k (some (.int (xi res))) (wX ad k S)) X cX8_cost 1 RX8 wsX8_cost (some .int) rmX8_cost := C
  show xJ l D k (xo X D k (some (.int (xi res))) (wX ad k S)) X 1 0 [(0, .ref (ad 34))] [] (wX ad k S)
  unfold m_X8_cost at hM
  refine xj_aload_n C 0 dX8_cost_0 rfl rfl ?_
  refine xj_get C (v := .int (xi (S 52 0))) (fun _ h => List.mem_cons_of_mem _ (List.mem_append_right _ h)) 34 (eX_34 ad k S) rfl 7 (by decide) (List.mem_of_getElem? (i := 1) rfl) (fun _ _ h => h) rfl dX8_cost_1 ?_
  obtain rfl := Option.some.inj hM
  exact xj_iret C rfl dX8_cost_4
def rmX8_bits : Room := { frames := 1, cells := 0, slots := 0, locals := 21 }
theorem hv_X8_bits : yX8_bits.cls = RX8 ∧ yX8_bits.cls ≠ "java/lang/invoke/MethodHandle" ∧ yX8_bits.cls ≠ "java/lang/invoke/VarHandle" ∧ (parseMethodDescriptor yX8_bits.desc).map (fun d => d.parameters.length) = some 1 := by decide +kernel
def m_X8_bits (p1 : Int) (S : xS) : Option (Int64) := (m_X5_bitsOf p1 S).bind (fun r1 => some r1)
set_option maxRecDepth 100000 in
set_option maxHeartbeats 4000000 in
theorem c_X8_bits {l : Launch} {D : va_G} {k : Nat → ClassId} {ad : Nat → Nat} {S : xS} {p1 : Int} {res : Int64} (hM : m_X8_bits p1 S = some res) : xM l yX8_bits wsX8_bits rmX8_bits D k [.ref (ad 34), .int (xi p1)] (wX ad k S) (some (.long res)) (wX ad k S) := by
  refine xM_of (ret := (some .long)) (by decide) rfl (Nat.le_of_ble_eq_true rfl) (fun X C => ?_)
  have C : xC D k (xo X D k (some (.long res)) (wX ad k S)) X cX8_bits 2 RX8 wsX8_bits (some .long) rmX8_bits := C
  show xJ l D k (xo X D k (some (.long res)) (wX ad k S)) X 2 0 [(0, .ref (ad 34)), (1, .int (xi p1))] [] (wX ad k S)
  unfold m_X8_bits at hM
  refine xj_aload_n C 0 dX8_bits_0 rfl rfl ?_
  refine xj_get C (fun _ h => List.mem_cons_of_mem _ (List.mem_append_left _ (List.mem_append_right _ h))) 34 (eX_34 ad k S) rfl 4 (by decide) (List.mem_of_getElem? (i := 1) rfl) (fun _ _ h => h) rfl dX8_bits_1 ?_
  refine xj_iload_n C 1 dX8_bits_4 rfl rfl ?_
  obtain ⟨r1, hRr1, hM⟩ := xbd hM
  refine xj_callV C [.int (xi p1)] [] 1 (c_X5_bitsOf hRr1) gX8_bits_X5_bitsOf rfl ⟨rfl, rfl⟩ hv_X5_bitsOf ⟨Nat.le_of_ble_eq_true rfl, Nat.le_of_ble_eq_true rfl⟩ 40 (eX_40 ad k _) rfl rfl (Nat.le_of_ble_eq_true rfl) dX8_bits_5 ?_
  obtain rfl := Option.some.inj hM
  exact xj_lret C rfl dX8_bits_8
def rmX8_load : Room := { frames := 4, cells := 0, slots := 0, locals := 90 }
theorem hv_X8_load : yX8_load.cls = RX8 ∧ yX8_load.cls ≠ "java/lang/invoke/MethodHandle" ∧ yX8_load.cls ≠ "java/lang/invoke/VarHandle" ∧ (parseMethodDescriptor yX8_load.desc).map (fun d => d.parameters.length) = some 2 := by decide +kernel
def m_X8_load (p1 : Int) (p2 : Int64) (S : xS) : Option (Int × xS) := xck (xr p1) (if p1 < 0 then some (0, S) else (if 16 ≤ p1 then some (0, S) else (m_X5_areLegal p2).bind (fun r4 => xck (xr r4) (if r4 = 0 then some (0, S) else (m_X5_setBits p1 p2 S).bind (fun r7 => (m_X5_retrace r7).bind (fun r8 => some (1, r8)))))))
set_option maxRecDepth 100000 in
set_option maxHeartbeats 4000000 in
theorem c_X8_load {l : Launch} {D : va_G} {k : Nat → ClassId} {ad : Nat → Nat} {S : xS} {p1 : Int} {p2 : Int64} {res : Int × xS} (hM : m_X8_load p1 p2 S = some res) : xM l yX8_load wsX8_load rmX8_load D k [.ref (ad 34), .int (xi p1), .long p2] (wX ad k S) (some (.int (xi res.1))) (wX ad k res.2) := by
  refine xM_of (ret := (some .boolean)) (by decide) rfl (Nat.le_of_ble_eq_true rfl) (fun X C => ?_)
  have C : xC D k (xo X D k (some (.int (xi res.1))) (wX ad k res.2)) X cX8_load 4 RX8 wsX8_load (some .boolean) rmX8_load := C
  show xJ l D k (xo X D k (some (.int (xi res.1))) (wX ad k res.2)) X 4 0 [(0, .ref (ad 34)), (1, .int (xi p1)), (2, .long p2)] [] (wX ad k S)
  unfold m_X8_load at hM
  refine xj_iload_n C 1 dX8_load_0 rfl rfl ?_
  obtain ⟨g1, hM⟩ := xck_some hM
  refine xj_if_lt C (tgt := 17) dX8_load_1 (by decide) g1 (fun c2 => ?_) (fun c2 => ?_)
  · have hM := xit hM c2
    refine xj_iconst C dX8_load_17 ?_
    obtain rfl := Option.some.inj hM
    exact xj_zret (Or.inl rfl) C rfl dX8_load_18
  · have hM := xif hM c2
    refine xj_iload_n C 1 dX8_load_4 rfl rfl ?_
    refine xj_bipush C (n := 16) (by decide) dX8_load_5 ?_
    refine xj_icmp_ge C (tgt := 17) dX8_load_7 (by decide) ⟨g1, (by decide)⟩ (fun c3 => ?_) (fun c3 => ?_)
    · have hM := xit hM c3
      refine xj_iconst C dX8_load_17 ?_
      obtain rfl := Option.some.inj hM
      exact xj_zret (Or.inl rfl) C rfl dX8_load_18
    · have hM := xif hM c3
      refine xj_lload_n C 2 dX8_load_10 rfl rfl ?_
      obtain ⟨r4, hRr4, hM⟩ := xbd hM
      refine xj_callS C [.long p2] [] 1 (c_X5_areLegal hRr4) gX8_load_X5_areLegal rfl ⟨rfl, rfl⟩ hv_X5_areLegal ⟨Nat.le_of_ble_eq_true rfl, Nat.le_of_ble_eq_true rfl⟩ rfl (Nat.le_of_ble_eq_true rfl) dX8_load_11 ?_
      obtain ⟨g5, hM⟩ := xck_some hM
      refine xj_if_ne C (tgt := 19) dX8_load_14 (by decide) g5 (fun c6 => ?_) (fun c6 => ?_)
      · have hM := xif hM c6
        refine xj_aload_n C 0 dX8_load_19 rfl rfl ?_
        refine xj_get C (fun _ h => List.mem_cons_of_mem _ (List.mem_append_left _ (List.mem_append_left _ (List.mem_append_right _ h)))) 34 (eX_34 ad k S) rfl 4 (by decide) (List.mem_of_getElem? (i := 1) rfl) (fun _ _ h => h) rfl dX8_load_20 ?_
        refine xj_iload_n C 1 dX8_load_23 rfl rfl ?_
        refine xj_lload_n C 2 dX8_load_24 rfl rfl ?_
        obtain ⟨r7, hRr7, hM⟩ := xbd hM
        refine xj_callV C [.int (xi p1), .long p2] [] 2 (c_X5_setBits hRr7) gX8_load_X5_setBits rfl ⟨rfl, rfl⟩ hv_X5_setBits ⟨Nat.le_of_ble_eq_true rfl, Nat.le_of_ble_eq_true rfl⟩ 40 (eX_40 ad k _) rfl rfl (Nat.le_of_ble_eq_true rfl) dX8_load_25 ?_
        refine xj_aload_n C 0 dX8_load_28 rfl rfl ?_
        refine xj_get C (fun _ h => List.mem_cons_of_mem _ (List.mem_append_left _ (List.mem_append_left _ (List.mem_append_right _ h)))) 34 (eX_34 ad k r7) rfl 4 (by decide) (List.mem_of_getElem? (i := 1) rfl) (fun _ _ h => h) rfl dX8_load_29 ?_
        obtain ⟨r8, hRr8, hM⟩ := xbd hM
        refine xj_callV C [] [] 0 (c_X5_retrace hRr8) gX8_load_X5_retrace rfl ⟨rfl, rfl⟩ hv_X5_retrace ⟨Nat.le_of_ble_eq_true rfl, Nat.le_of_ble_eq_true rfl⟩ 40 (eX_40 ad k _) rfl rfl (Nat.le_of_ble_eq_true rfl) dX8_load_32 ?_
        refine xj_iconst C dX8_load_35 ?_
        obtain rfl := Option.some.inj hM
        exact xj_zret (Or.inr rfl) C rfl dX8_load_36
      · have hM := xit hM c6
        refine xj_iconst C dX8_load_17 ?_
        obtain rfl := Option.some.inj hM
        exact xj_zret (Or.inl rfl) C rfl dX8_load_18
def rmX8_checkSum : Room := { frames := 1, cells := 0, slots := 0, locals := 25 }
theorem hv_X8_checkSum : yX8_checkSum.cls = RX8 ∧ yX8_checkSum.cls ≠ "java/lang/invoke/MethodHandle" ∧ yX8_checkSum.cls ≠ "java/lang/invoke/VarHandle" ∧ (parseMethodDescriptor yX8_checkSum.desc).map (fun d => d.parameters.length) = some 0 := by decide +kernel
def m_X8_checkSum (S : xS) : Option (Int) := (m_X5_sumUp S).bind (fun r1 => some r1)
set_option maxRecDepth 100000 in
set_option maxHeartbeats 4000000 in
theorem c_X8_checkSum {l : Launch} {D : va_G} {k : Nat → ClassId} {ad : Nat → Nat} {S : xS} {res : Int} (hM : m_X8_checkSum S = some res) : xM l yX8_checkSum wsX8_checkSum rmX8_checkSum D k [.ref (ad 34)] (wX ad k S) (some (.int (xi res))) (wX ad k S) := by
  refine xM_of (ret := (some .int)) (by decide) rfl (Nat.le_of_ble_eq_true rfl) (fun X C => ?_)
  have C : xC D k (xo X D k (some (.int (xi res))) (wX ad k S)) X cX8_checkSum 1 RX8 wsX8_checkSum (some .int) rmX8_checkSum := C
  show xJ l D k (xo X D k (some (.int (xi res))) (wX ad k S)) X 1 0 [(0, .ref (ad 34))] [] (wX ad k S)
  unfold m_X8_checkSum at hM
  refine xj_aload_n C 0 dX8_checkSum_0 rfl rfl ?_
  refine xj_get C (fun _ h => List.mem_cons_of_mem _ (List.mem_append_left _ (List.mem_append_right _ h))) 34 (eX_34 ad k S) rfl 4 (by decide) (List.mem_of_getElem? (i := 1) rfl) (fun _ _ h => h) rfl dX8_checkSum_1 ?_
  obtain ⟨r1, hRr1, hM⟩ := xbd hM
  refine xj_callV C [] [] 0 (c_X5_sumUp hRr1) gX8_checkSum_X5_sumUp rfl ⟨rfl, rfl⟩ hv_X5_sumUp ⟨Nat.le_of_ble_eq_true rfl, Nat.le_of_ble_eq_true rfl⟩ 40 (eX_40 ad k _) rfl rfl (Nat.le_of_ble_eq_true rfl) dX8_checkSum_4 ?_
  obtain rfl := Option.some.inj hM
  exact xj_iret C rfl dX8_checkSum_7
def rmX8_wayTo : Room := { frames := 0, cells := 0, slots := 0, locals := 0 }
theorem hv_X8_wayTo : yX8_wayTo.cls ≠ "java/lang/invoke/MethodHandle" ∧ yX8_wayTo.cls ≠ "java/lang/invoke/VarHandle" ∧ (parseMethodDescriptor yX8_wayTo.desc).map (fun d => d.parameters.length) = some 2 := by decide +kernel
def m_X8_wayTo (p0 : Int) (p1 : Int) : Option (Int) := (xck (xr p0) (if p0 < 0 then some 0 else (if 16 ≤ p0 then some 0 else xck (xr p1) (if p1 < 0 then some 0 else (if 3 ≤ p1 then some 0 else some 1))))).bind (fun r1 => xck (xr r1) (if r1 = 0 then some (-1) else some ((p0 * 3) + p1)))
set_option maxRecDepth 100000 in
set_option maxHeartbeats 4000000 in
theorem c_X8_wayTo {l : Launch} {D : va_G} {k : Nat → ClassId} {w : va_W} {p0 : Int} {p1 : Int} {res : Int} (hM : m_X8_wayTo p0 p1 = some res) : xM l yX8_wayTo wsX8_wayTo rmX8_wayTo D k [.int (xi p0), .int (xi p1)] w (some (.int (xi res))) w := by
  refine xM_of (ret := (some .int)) (by decide) rfl (Nat.le_of_ble_eq_true rfl) (fun X C => ?_)
  have C : xC D k (xo X D k (some (.int (xi res))) w) X cX8_wayTo 3 RX8 wsX8_wayTo (some .int) rmX8_wayTo := C
  show xJ l D k (xo X D k (some (.int (xi res))) w) X 3 0 [(0, .int (xi p0)), (1, .int (xi p1))] [] w
  unfold m_X8_wayTo at hM
  refine xj_iload_n C 0 dX8_wayTo_0 rfl rfl ?_
  obtain ⟨r1, hRr1, hM⟩ := xbd hM
  have Kr1 : xJ l D k (xo X D k (some (.int (xi res))) w) X 3 24 [(0, .int (xi p0)), (1, .int (xi p1))] [.int (xi r1)] w := by
    refine xj_istore_n C (L1 := [(2, .int (xi r1)), (0, .int (xi p0)), (1, .int (xi p1))]) dX8_wayTo_24 rfl (by decide) rfl ?_
    refine xj_iload_n C 0 dX8_wayTo_25 rfl rfl ?_
    obtain ⟨g8, hM⟩ := xck_some hM
    refine xj_if_eq C (tgt := 37) dX8_wayTo_26 (by decide) g8 (fun c9 => ?_) (fun c9 => ?_)
    · have hM := xit hM c9
      refine xj_iconst C dX8_wayTo_37 ?_
      obtain rfl := Option.some.inj hM
      exact xj_iret C rfl dX8_wayTo_38
    · have hM := xif hM c9
      refine xj_iload_n C 1 dX8_wayTo_29 rfl rfl ?_
      refine xj_iconst C dX8_wayTo_30 ?_
      refine xj_imul C dX8_wayTo_31 ?_
      refine xj_iload_n C 2 dX8_wayTo_32 rfl rfl ?_
      refine xj_iadd C dX8_wayTo_33 ?_
      refine xj_goto C (tgt := 38) dX8_wayTo_34 (by decide) ?_
      obtain rfl := Option.some.inj hM
      exact xj_iret C rfl dX8_wayTo_38
  clear hM
  have hM := hRr1
  obtain ⟨g2, hM⟩ := xck_some hM
  refine xj_if_lt C (tgt := 23) dX8_wayTo_1 (by decide) g2 (fun c3 => ?_) (fun c3 => ?_)
  · have hM := xit hM c3
    refine xj_iconst C dX8_wayTo_23 ?_
    obtain rfl := Option.some.inj hM
    exact Kr1
  · have hM := xif hM c3
    refine xj_iload_n C 0 dX8_wayTo_4 rfl rfl ?_
    refine xj_bipush C (n := 16) (by decide) dX8_wayTo_5 ?_
    refine xj_icmp_ge C (tgt := 23) dX8_wayTo_7 (by decide) ⟨g2, (by decide)⟩ (fun c4 => ?_) (fun c4 => ?_)
    · have hM := xit hM c4
      refine xj_iconst C dX8_wayTo_23 ?_
      obtain rfl := Option.some.inj hM
      exact Kr1
    · have hM := xif hM c4
      refine xj_iload_n C 1 dX8_wayTo_10 rfl rfl ?_
      obtain ⟨g5, hM⟩ := xck_some hM
      refine xj_if_lt C (tgt := 23) dX8_wayTo_11 (by decide) g5 (fun c6 => ?_) (fun c6 => ?_)
      · have hM := xit hM c6
        refine xj_iconst C dX8_wayTo_23 ?_
        obtain rfl := Option.some.inj hM
        exact Kr1
      · have hM := xif hM c6
        refine xj_iload_n C 1 dX8_wayTo_14 rfl rfl ?_
        refine xj_iconst C dX8_wayTo_15 ?_
        refine xj_icmp_ge C (tgt := 23) dX8_wayTo_16 (by decide) ⟨g5, (by decide)⟩ (fun c7 => ?_) (fun c7 => ?_)
        · have hM := xit hM c7
          refine xj_iconst C dX8_wayTo_23 ?_
          obtain rfl := Option.some.inj hM
          exact Kr1
        · have hM := xif hM c7
          refine xj_iconst C dX8_wayTo_19 ?_
          refine xj_goto C (tgt := 24) dX8_wayTo_20 (by decide) ?_
          obtain rfl := Option.some.inj hM
          exact Kr1
def rmX8_pin : Room := { frames := 1, cells := 0, slots := 0, locals := 22 }
theorem hv_X8_pin : yX8_pin.cls = RX8 ∧ yX8_pin.cls ≠ "java/lang/invoke/MethodHandle" ∧ yX8_pin.cls ≠ "java/lang/invoke/VarHandle" ∧ (parseMethodDescriptor yX8_pin.desc).map (fun d => d.parameters.length) = some 2 := by decide +kernel
def m_X8_pin (p1 : Int) (p2 : Int) (S : xS) : Option (Int) := (m_X8_wayTo p1 p2).bind (fun r1 => (m_X5_originOf r1 S).bind (fun r2 => some r2))
set_option maxRecDepth 100000 in
set_option maxHeartbeats 4000000 in
theorem c_X8_pin {l : Launch} {D : va_G} {k : Nat → ClassId} {ad : Nat → Nat} {S : xS} {p1 : Int} {p2 : Int} {res : Int} (hM : m_X8_pin p1 p2 S = some res) : xM l yX8_pin wsX8_pin rmX8_pin D k [.ref (ad 34), .int (xi p1), .int (xi p2)] (wX ad k S) (some (.int (xi res))) (wX ad k S) := by
  refine xM_of (ret := (some .int)) (by decide) rfl (Nat.le_of_ble_eq_true rfl) (fun X C => ?_)
  have C : xC D k (xo X D k (some (.int (xi res))) (wX ad k S)) X cX8_pin 3 RX8 wsX8_pin (some .int) rmX8_pin := C
  show xJ l D k (xo X D k (some (.int (xi res))) (wX ad k S)) X 3 0 [(0, .ref (ad 34)), (1, .int (xi p1)), (2, .int (xi p2))] [] (wX ad k S)
  unfold m_X8_pin at hM
  refine xj_aload_n C 0 dX8_pin_0 rfl rfl ?_
  refine xj_get C (fun _ h => List.mem_cons_of_mem _ (List.mem_append_left _ (List.mem_append_right _ h))) 34 (eX_34 ad k S) rfl 4 (by decide) (List.mem_of_getElem? (i := 1) rfl) (fun _ _ h => h) rfl dX8_pin_1 ?_
  refine xj_iload_n C 1 dX8_pin_4 rfl rfl ?_
  refine xj_iload_n C 2 dX8_pin_5 rfl rfl ?_
  obtain ⟨r1, hRr1, hM⟩ := xbd hM
  refine xj_callS C [.int (xi p1), .int (xi p2)] [.ref (ad 40)] 2 (c_X8_wayTo hRr1) gX8_pin_X8_wayTo rfl ⟨rfl, rfl⟩ hv_X8_wayTo ⟨Nat.le_of_ble_eq_true rfl, Nat.le_of_ble_eq_true rfl⟩ rfl (Nat.le_of_ble_eq_true rfl) dX8_pin_6 ?_
  obtain ⟨r2, hRr2, hM⟩ := xbd hM
  refine xj_callV C [.int (xi r1)] [] 1 (c_X5_originOf hRr2) gX8_pin_X5_originOf rfl ⟨rfl, rfl⟩ hv_X5_originOf ⟨Nat.le_of_ble_eq_true rfl, Nat.le_of_ble_eq_true rfl⟩ 40 (eX_40 ad k _) rfl rfl (Nat.le_of_ble_eq_true rfl) dX8_pin_9 ?_
  obtain rfl := Option.some.inj hM
  exact xj_iret C rfl dX8_pin_12
def rmX8_outputOf : Room := { frames := 1, cells := 0, slots := 0, locals := 21 }
theorem hv_X8_outputOf : yX8_outputOf.cls = RX8 ∧ yX8_outputOf.cls ≠ "java/lang/invoke/MethodHandle" ∧ yX8_outputOf.cls ≠ "java/lang/invoke/VarHandle" ∧ (parseMethodDescriptor yX8_outputOf.desc).map (fun d => d.parameters.length) = some 1 := by decide +kernel
def m_X8_outputOf (p1 : Int) (S : xS) : Option (Int) := xck (xr p1) (if p1 < 0 then some (-1) else (if p1 < 4 then (m_X5_originOf (48 + p1) S).bind (fun r4 => some r4) else some (-1)))
set_option maxRecDepth 100000 in
set_option maxHeartbeats 4000000 in
theorem c_X8_outputOf {l : Launch} {D : va_G} {k : Nat → ClassId} {ad : Nat → Nat} {S : xS} {p1 : Int} {res : Int} (hM : m_X8_outputOf p1 S = some res) : xM l yX8_outputOf wsX8_outputOf rmX8_outputOf D k [.ref (ad 34), .int (xi p1)] (wX ad k S) (some (.int (xi res))) (wX ad k S) := by
  refine xM_of (ret := (some .int)) (by decide) rfl (Nat.le_of_ble_eq_true rfl) (fun X C => ?_)
  have C : xC D k (xo X D k (some (.int (xi res))) (wX ad k S)) X cX8_outputOf 2 RX8 wsX8_outputOf (some .int) rmX8_outputOf := C
  show xJ l D k (xo X D k (some (.int (xi res))) (wX ad k S)) X 2 0 [(0, .ref (ad 34)), (1, .int (xi p1))] [] (wX ad k S)
  unfold m_X8_outputOf at hM
  refine xj_iload_n C 1 dX8_outputOf_0 rfl rfl ?_
  obtain ⟨g1, hM⟩ := xck_some hM
  refine xj_if_lt C (tgt := 9) dX8_outputOf_1 (by decide) g1 (fun c2 => ?_) (fun c2 => ?_)
  · have hM := xit hM c2
    refine xj_iconst C dX8_outputOf_9 ?_
    refine xj_goto C (tgt := 24) dX8_outputOf_10 (by decide) ?_
    obtain rfl := Option.some.inj hM
    exact xj_iret C rfl dX8_outputOf_24
  · have hM := xif hM c2
    refine xj_iload_n C 1 dX8_outputOf_4 rfl rfl ?_
    refine xj_iconst C dX8_outputOf_5 ?_
    refine xj_icmp_lt C (tgt := 13) dX8_outputOf_6 (by decide) ⟨g1, (by decide)⟩ (fun c3 => ?_) (fun c3 => ?_)
    · have hM := xit hM c3
      refine xj_aload_n C 0 dX8_outputOf_13 rfl rfl ?_
      refine xj_get C (fun _ h => List.mem_cons_of_mem _ (List.mem_append_left _ (List.mem_append_right _ h))) 34 (eX_34 ad k S) rfl 4 (by decide) (List.mem_of_getElem? (i := 1) rfl) (fun _ _ h => h) rfl dX8_outputOf_14 ?_
      refine xj_bipush C (n := 48) (by decide) dX8_outputOf_17 ?_
      refine xj_iload_n C 1 dX8_outputOf_19 rfl rfl ?_
      refine xj_iadd C dX8_outputOf_20 ?_
      obtain ⟨r4, hRr4, hM⟩ := xbd hM
      refine xj_callV C [.int (xi (48 + p1))] [] 1 (c_X5_originOf hRr4) gX8_outputOf_X5_originOf rfl ⟨rfl, rfl⟩ hv_X5_originOf ⟨Nat.le_of_ble_eq_true rfl, Nat.le_of_ble_eq_true rfl⟩ 40 (eX_40 ad k _) rfl rfl (Nat.le_of_ble_eq_true rfl) dX8_outputOf_21 ?_
      obtain rfl := Option.some.inj hM
      exact xj_iret C rfl dX8_outputOf_24
    · have hM := xif hM c3
      refine xj_iconst C dX8_outputOf_9 ?_
      refine xj_goto C (tgt := 24) dX8_outputOf_10 (by decide) ?_
      obtain rfl := Option.some.inj hM
      exact xj_iret C rfl dX8_outputOf_24
def rmX8_channels : Room := { frames := 1, cells := 0, slots := 0, locals := 22 }
theorem hv_X8_channels : yX8_channels.cls = RX8 ∧ yX8_channels.cls ≠ "java/lang/invoke/MethodHandle" ∧ yX8_channels.cls ≠ "java/lang/invoke/VarHandle" ∧ (parseMethodDescriptor yX8_channels.desc).map (fun d => d.parameters.length) = some 2 := by decide +kernel
def m_X8_channels (p1 : Int) (p2 : Int) (S : xS) : Option (Int) := (m_X8_wayTo p1 p2).bind (fun r1 => (m_X5_lengthOf r1 S).bind (fun r2 => some r2))
set_option maxRecDepth 100000 in
set_option maxHeartbeats 4000000 in
theorem c_X8_channels {l : Launch} {D : va_G} {k : Nat → ClassId} {ad : Nat → Nat} {S : xS} {p1 : Int} {p2 : Int} {res : Int} (hM : m_X8_channels p1 p2 S = some res) : xM l yX8_channels wsX8_channels rmX8_channels D k [.ref (ad 34), .int (xi p1), .int (xi p2)] (wX ad k S) (some (.int (xi res))) (wX ad k S) := by
  refine xM_of (ret := (some .int)) (by decide) rfl (Nat.le_of_ble_eq_true rfl) (fun X C => ?_)
  have C : xC D k (xo X D k (some (.int (xi res))) (wX ad k S)) X cX8_channels 3 RX8 wsX8_channels (some .int) rmX8_channels := C
  show xJ l D k (xo X D k (some (.int (xi res))) (wX ad k S)) X 3 0 [(0, .ref (ad 34)), (1, .int (xi p1)), (2, .int (xi p2))] [] (wX ad k S)
  unfold m_X8_channels at hM
  refine xj_aload_n C 0 dX8_channels_0 rfl rfl ?_
  refine xj_get C (fun _ h => List.mem_cons_of_mem _ (List.mem_append_left _ (List.mem_append_right _ h))) 34 (eX_34 ad k S) rfl 4 (by decide) (List.mem_of_getElem? (i := 1) rfl) (fun _ _ h => h) rfl dX8_channels_1 ?_
  refine xj_iload_n C 1 dX8_channels_4 rfl rfl ?_
  refine xj_iload_n C 2 dX8_channels_5 rfl rfl ?_
  obtain ⟨r1, hRr1, hM⟩ := xbd hM
  refine xj_callS C [.int (xi p1), .int (xi p2)] [.ref (ad 40)] 2 (c_X8_wayTo hRr1) gX8_channels_X8_wayTo rfl ⟨rfl, rfl⟩ hv_X8_wayTo ⟨Nat.le_of_ble_eq_true rfl, Nat.le_of_ble_eq_true rfl⟩ rfl (Nat.le_of_ble_eq_true rfl) dX8_channels_6 ?_
  obtain ⟨r2, hRr2, hM⟩ := xbd hM
  refine xj_callV C [.int (xi r1)] [] 1 (c_X5_lengthOf hRr2) gX8_channels_X5_lengthOf rfl ⟨rfl, rfl⟩ hv_X5_lengthOf ⟨Nat.le_of_ble_eq_true rfl, Nat.le_of_ble_eq_true rfl⟩ 40 (eX_40 ad k _) rfl rfl (Nat.le_of_ble_eq_true rfl) dX8_channels_9 ?_
  obtain rfl := Option.some.inj hM
  exact xj_iret C rfl dX8_channels_12
def rmX8_longest : Room := { frames := 5, cells := 0, slots := 0, locals := 113 }
theorem hv_X8_longest : yX8_longest.cls = RX8 ∧ yX8_longest.cls ≠ "java/lang/invoke/MethodHandle" ∧ yX8_longest.cls ≠ "java/lang/invoke/VarHandle" ∧ (parseMethodDescriptor yX8_longest.desc).map (fun d => d.parameters.length) = some 0 := by decide +kernel
def m_X8_longest (S : xS) : Option (UInt64 × xS) := (m_X6_longestWay S).bind (fun r1 => some (r1.1, r1.2))
set_option maxRecDepth 100000 in
set_option maxHeartbeats 4000000 in
theorem c_X8_longest {l : Launch} {D : va_G} {k : Nat → ClassId} {ad : Nat → Nat} {S : xS} {res : UInt64 × xS} (hM : m_X8_longest S = some res) : xM l yX8_longest wsX8_longest rmX8_longest D k [.ref (ad 34)] (wX ad k S) (some (.double res.1)) (wX ad k res.2) := by
  refine xM_of (ret := (some .double)) (by decide) rfl (Nat.le_of_ble_eq_true rfl) (fun X C => ?_)
  have C : xC D k (xo X D k (some (.double res.1)) (wX ad k res.2)) X cX8_longest 1 RX8 wsX8_longest (some .double) rmX8_longest := C
  show xJ l D k (xo X D k (some (.double res.1)) (wX ad k res.2)) X 1 0 [(0, .ref (ad 34))] [] (wX ad k S)
  unfold m_X8_longest at hM
  refine xj_aload_n C 0 dX8_longest_0 rfl rfl ?_
  refine xj_get C (fun _ h => List.mem_cons_of_mem _ (List.mem_append_left _ (List.mem_append_left _ (List.mem_append_right _ h)))) 34 (eX_34 ad k S) rfl 5 (by decide) (List.mem_of_getElem? (i := 1) rfl) (fun _ _ h => h) rfl dX8_longest_1 ?_
  obtain ⟨r1, hRr1, hM⟩ := xbd hM
  refine xj_callV C [] [] 0 (c_X6_longestWay hRr1) gX8_longest_X6_longestWay rfl ⟨rfl, rfl⟩ hv_X6_longestWay ⟨Nat.le_of_ble_eq_true rfl, Nat.le_of_ble_eq_true rfl⟩ 41 (eX_41 ad k _) rfl rfl (Nat.le_of_ble_eq_true rfl) dX8_longest_4 ?_
  obtain rfl := Option.some.inj hM
  exact xj_dret C rfl dX8_longest_7
def rmX8_slack : Room := { frames := 5, cells := 0, slots := 0, locals := 113 }
theorem hv_X8_slack : yX8_slack.cls = RX8 ∧ yX8_slack.cls ≠ "java/lang/invoke/MethodHandle" ∧ yX8_slack.cls ≠ "java/lang/invoke/VarHandle" ∧ (parseMethodDescriptor yX8_slack.desc).map (fun d => d.parameters.length) = some 1 := by decide +kernel
def m_X8_slack (p1 : UInt64) (S : xS) : Option (UInt64 × xS) := (if 0 < (xb_dcmp .l p1 FP.dconst0) then (m_X6_longestWay S).bind (fun r2 => (if 0 ≤ (xb_dcmp .g r2.1 FP.dconst0) then xck ((FP.dsub p1 r2.1) &&& 9223372036854775807 ≤ (9218868437227405312 : UInt64)) (some ((FP.dsub p1 r2.1), r2.2)) else some ((13830554455654793216 : UInt64), r2.2))) else some ((13830554455654793216 : UInt64), S))
set_option maxRecDepth 100000 in
set_option maxHeartbeats 4000000 in
theorem c_X8_slack {l : Launch} {D : va_G} {k : Nat → ClassId} {ad : Nat → Nat} {S : xS} {p1 : UInt64} {res : UInt64 × xS} (hM : m_X8_slack p1 S = some res) : xM l yX8_slack wsX8_slack rmX8_slack D k [.ref (ad 34), .double p1] (wX ad k S) (some (.double res.1)) (wX ad k res.2) := by
  refine xM_of (ret := (some .double)) (by decide) rfl (Nat.le_of_ble_eq_true rfl) (fun X C => ?_)
  have C : xC D k (xo X D k (some (.double res.1)) (wX ad k res.2)) X cX8_slack 5 RX8 wsX8_slack (some .double) rmX8_slack := C
  show xJ l D k (xo X D k (some (.double res.1)) (wX ad k res.2)) X 5 0 [(0, .ref (ad 34)), (1, .double p1)] [] (wX ad k S)
  unfold m_X8_slack at hM
  refine xj_dload_n C 1 dX8_slack_0 rfl rfl ?_
  refine xj_dconst0 C dX8_slack_1 ?_
  refine xj_dcmp C dX8_slack_2 ?_
  refine xj_if_gt C (tgt := 10) dX8_slack_3 (by decide) (xr_dcmp _ _ _) (fun c1 => ?_) (fun c1 => ?_)
  · have hM := xit hM c1
    refine xj_aload_n C 0 dX8_slack_10 rfl rfl ?_
    refine xj_get C (fun _ h => List.mem_cons_of_mem _ (List.mem_append_left _ (List.mem_append_left _ (List.mem_append_right _ h)))) 34 (eX_34 ad k S) rfl 5 (by decide) (List.mem_of_getElem? (i := 2) rfl) (fun _ _ h => h) rfl dX8_slack_11 ?_
    obtain ⟨r2, hRr2, hM⟩ := xbd hM
    refine xj_callV C [] [] 0 (c_X6_longestWay hRr2) gX8_slack_X6_longestWay rfl ⟨rfl, rfl⟩ hv_X6_longestWay ⟨Nat.le_of_ble_eq_true rfl, Nat.le_of_ble_eq_true rfl⟩ 41 (eX_41 ad k _) rfl rfl (Nat.le_of_ble_eq_true rfl) dX8_slack_14 ?_
    refine xj_dstore_n C (L1 := [(3, .double r2.1), (0, .ref (ad 34)), (1, .double p1)]) dX8_slack_17 rfl (by decide) rfl ?_
    refine xj_dload_n C 0 dX8_slack_18 rfl rfl ?_
    refine xj_dconst0 C dX8_slack_19 ?_
    refine xj_dcmp C dX8_slack_20 ?_
    refine xj_if_ge C (tgt := 30) dX8_slack_21 (by decide) (xr_dcmp _ _ _) (fun c3 => ?_) (fun c3 => ?_)
    · have hM := xit hM c3
      refine xj_dload_n C 2 dX8_slack_30 rfl rfl ?_
      refine xj_dload_n C 0 dX8_slack_31 rfl rfl ?_
      obtain ⟨g4, hM⟩ := xck_some hM
      refine xj_dsub C g4 dX8_slack_32 ?_
      obtain rfl := Option.some.inj hM
      exact xj_dret C rfl dX8_slack_33
    · have hM := xif hM c3
      refine xj_ldc2d C (List.mem_of_getElem? (i := 1) rfl) dX8_slack_24 ?_
      refine xj_goto C (tgt := 33) dX8_slack_27 (by decide) ?_
      obtain rfl := Option.some.inj hM
      exact xj_dret C rfl dX8_slack_33
  · have hM := xif hM c1
    refine xj_ldc2d C (List.mem_of_getElem? (i := 1) rfl) dX8_slack_6 ?_
    obtain rfl := Option.some.inj hM
    exact xj_dret C rfl dX8_slack_9
def rmX8_reset : Room := { frames := 3, cells := 0, slots := 0, locals := 63 }
theorem hv_X8_reset : yX8_reset.cls = RX8 ∧ yX8_reset.cls ≠ "java/lang/invoke/MethodHandle" ∧ yX8_reset.cls ≠ "java/lang/invoke/VarHandle" ∧ (parseMethodDescriptor yX8_reset.desc).map (fun d => d.parameters.length) = some 0 := by decide +kernel
def m_X8_reset (S : xS) : Option (xS) := (m_X5_restart S).bind (fun r1 => (m_X0_restart r1).bind (fun r2 => some r2))
set_option maxRecDepth 100000 in
set_option maxHeartbeats 4000000 in
theorem c_X8_reset {l : Launch} {D : va_G} {k : Nat → ClassId} {ad : Nat → Nat} {S : xS} {res : xS} (hM : m_X8_reset S = some res) : xM l yX8_reset wsX8_reset rmX8_reset D k [.ref (ad 34)] (wX ad k S) none (wX ad k res) := by
  refine xM_of (ret := none) (by decide) rfl (Nat.le_of_ble_eq_true rfl) (fun X C => ?_)
  have C : xC D k (xo X D k none (wX ad k res)) X cX8_reset 1 RX8 wsX8_reset none rmX8_reset := C
  show xJ l D k (xo X D k none (wX ad k res)) X 1 0 [(0, .ref (ad 34))] [] (wX ad k S)
  unfold m_X8_reset at hM
  refine xj_aload_n C 0 dX8_reset_0 rfl rfl ?_
  refine xj_get C (fun _ h => List.mem_cons_of_mem _ (List.mem_append_left _ (List.mem_append_left _ (List.mem_append_right _ h)))) 34 (eX_34 ad k S) rfl 4 (by decide) (List.mem_of_getElem? (i := 1) rfl) (fun _ _ h => h) rfl dX8_reset_1 ?_
  obtain ⟨r1, hRr1, hM⟩ := xbd hM
  refine xj_callV C [] [] 0 (c_X5_restart hRr1) gX8_reset_X5_restart rfl ⟨rfl, rfl⟩ hv_X5_restart ⟨Nat.le_of_ble_eq_true rfl, Nat.le_of_ble_eq_true rfl⟩ 40 (eX_40 ad k _) rfl rfl (Nat.le_of_ble_eq_true rfl) dX8_reset_4 ?_
  refine xj_aload_n C 0 dX8_reset_7 rfl rfl ?_
  refine xj_get C (fun _ h => List.mem_cons_of_mem _ (List.mem_append_left _ (List.mem_append_left _ (List.mem_append_right _ h)))) 34 (eX_34 ad k r1) rfl 0 (by decide) (List.mem_of_getElem? (i := 2) rfl) (fun _ _ h => h) rfl dX8_reset_8 ?_
  obtain ⟨r2, hRr2, hM⟩ := xbd hM
  refine xj_callV C [] [] 0 (c_X0_restart hRr2) gX8_reset_X0_restart rfl ⟨rfl, rfl⟩ hv_X0_restart ⟨Nat.le_of_ble_eq_true rfl, Nat.le_of_ble_eq_true rfl⟩ 35 (eX_35 ad k _) rfl rfl (Nat.le_of_ble_eq_true rfl) dX8_reset_11 ?_
  obtain rfl := Option.some.inj hM
  exact xj_vret C rfl dX8_reset_14
def rmX8_clock : Room := { frames := 5, cells := 0, slots := 0, locals := 113 }
theorem hv_X8_clock : yX8_clock.cls = RX8 ∧ yX8_clock.cls ≠ "java/lang/invoke/MethodHandle" ∧ yX8_clock.cls ≠ "java/lang/invoke/VarHandle" ∧ (parseMethodDescriptor yX8_clock.desc).map (fun d => d.parameters.length) = some 1 := by decide +kernel
def m_X8_clock (p1 : Int) (S : xS) : Option (Int × xS) := (m_X5_step p1 S).bind (fun r1 => some (r1.1, r1.2))
set_option maxRecDepth 100000 in
set_option maxHeartbeats 4000000 in
theorem c_X8_clock {l : Launch} {D : va_G} {k : Nat → ClassId} {ad : Nat → Nat} {S : xS} {p1 : Int} {res : Int × xS} (hM : m_X8_clock p1 S = some res) : xM l yX8_clock wsX8_clock rmX8_clock D k [.ref (ad 34), .int (xi p1)] (wX ad k S) (some (.int (xi res.1))) (wX ad k res.2) := by
  refine xM_of (ret := (some .int)) (by decide) rfl (Nat.le_of_ble_eq_true rfl) (fun X C => ?_)
  have C : xC D k (xo X D k (some (.int (xi res.1))) (wX ad k res.2)) X cX8_clock 2 RX8 wsX8_clock (some .int) rmX8_clock := C
  show xJ l D k (xo X D k (some (.int (xi res.1))) (wX ad k res.2)) X 2 0 [(0, .ref (ad 34)), (1, .int (xi p1))] [] (wX ad k S)
  unfold m_X8_clock at hM
  refine xj_aload_n C 0 dX8_clock_0 rfl rfl ?_
  refine xj_get C (fun _ h => List.mem_cons_of_mem _ (List.mem_append_left _ (List.mem_append_right _ h))) 34 (eX_34 ad k S) rfl 4 (by decide) (List.mem_of_getElem? (i := 1) rfl) (fun _ _ h => h) rfl dX8_clock_1 ?_
  refine xj_iload_n C 1 dX8_clock_4 rfl rfl ?_
  obtain ⟨r1, hRr1, hM⟩ := xbd hM
  refine xj_callV C [.int (xi p1)] [] 1 (c_X5_step hRr1) gX8_clock_X5_step rfl ⟨rfl, rfl⟩ hv_X5_step ⟨Nat.le_of_ble_eq_true rfl, Nat.le_of_ble_eq_true rfl⟩ 40 (eX_40 ad k _) rfl rfl (Nat.le_of_ble_eq_true rfl) dX8_clock_5 ?_
  obtain rfl := Option.some.inj hM
  exact xj_iret C rfl dX8_clock_8
def rmX8_run : Room := { frames := 4, cells := 0, slots := 0, locals := 92 }
theorem hv_X8_run : yX8_run.cls = RX8 ∧ yX8_run.cls ≠ "java/lang/invoke/MethodHandle" ∧ yX8_run.cls ≠ "java/lang/invoke/VarHandle" ∧ (parseMethodDescriptor yX8_run.desc).map (fun d => d.parameters.length) = some 1 := by decide +kernel
def m_X8_run (p1 : Int) (S : xS) : Option (Int × xS) := (m_X0_hasRing S).bind (fun r1 => xck (xr r1.1) (if r1.1 = 0 then (m_X0_step p1 r1.2).bind (fun r4 => some (r4.1, r4.2)) else some ((-2), r1.2)))
set_option maxRecDepth 100000 in
set_option maxHeartbeats 4000000 in
theorem c_X8_run {l : Launch} {D : va_G} {k : Nat → ClassId} {ad : Nat → Nat} {S : xS} {p1 : Int} {res : Int × xS} (hM : m_X8_run p1 S = some res) : xM l yX8_run wsX8_run rmX8_run D k [.ref (ad 34), .int (xi p1)] (wX ad k S) (some (.int (xi res.1))) (wX ad k res.2) := by
  refine xM_of (ret := (some .int)) (by decide) rfl (Nat.le_of_ble_eq_true rfl) (fun X C => ?_)
  have C : xC D k (xo X D k (some (.int (xi res.1))) (wX ad k res.2)) X cX8_run 2 RX8 wsX8_run (some .int) rmX8_run := C
  show xJ l D k (xo X D k (some (.int (xi res.1))) (wX ad k res.2)) X 2 0 [(0, .ref (ad 34)), (1, .int (xi p1))] [] (wX ad k S)
  unfold m_X8_run at hM
  refine xj_aload_n C 0 dX8_run_0 rfl rfl ?_
  refine xj_get C (fun _ h => List.mem_cons_of_mem _ (List.mem_append_left _ (List.mem_append_right _ h))) 34 (eX_34 ad k S) rfl 0 (by decide) (List.mem_of_getElem? (i := 1) rfl) (fun _ _ h => h) rfl dX8_run_1 ?_
  obtain ⟨r1, hRr1, hM⟩ := xbd hM
  refine xj_callV C [] [] 0 (c_X0_hasRing hRr1) gX8_run_X0_hasRing rfl ⟨rfl, rfl⟩ hv_X0_hasRing ⟨Nat.le_of_ble_eq_true rfl, Nat.le_of_ble_eq_true rfl⟩ 35 (eX_35 ad k _) rfl rfl (Nat.le_of_ble_eq_true rfl) dX8_run_4 ?_
  obtain ⟨g2, hM⟩ := xck_some hM
  refine xj_if_eq C (tgt := 15) dX8_run_7 (by decide) g2 (fun c3 => ?_) (fun c3 => ?_)
  · have hM := xit hM c3
    refine xj_aload_n C 0 dX8_run_15 rfl rfl ?_
    refine xj_get C (fun _ h => List.mem_cons_of_mem _ (List.mem_append_left _ (List.mem_append_right _ h))) 34 (eX_34 ad k r1.2) rfl 0 (by decide) (List.mem_of_getElem? (i := 1) rfl) (fun _ _ h => h) rfl dX8_run_16 ?_
    refine xj_iload_n C 1 dX8_run_19 rfl rfl ?_
    obtain ⟨r4, hRr4, hM⟩ := xbd hM
    refine xj_callV C [.int (xi p1)] [] 1 (c_X0_step hRr4) gX8_run_X0_step rfl ⟨rfl, rfl⟩ hv_X0_step ⟨Nat.le_of_ble_eq_true rfl, Nat.le_of_ble_eq_true rfl⟩ 35 (eX_35 ad k _) rfl rfl (Nat.le_of_ble_eq_true rfl) dX8_run_20 ?_
    obtain rfl := Option.some.inj hM
    exact xj_iret C rfl dX8_run_23
  · have hM := xif hM c3
    refine xj_bipush C (n := (-2)) (by decide) dX8_run_10 ?_
    refine xj_goto C (tgt := 23) dX8_run_12 (by decide) ?_
    obtain rfl := Option.some.inj hM
    exact xj_iret C rfl dX8_run_23
