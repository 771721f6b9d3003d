/-! mirrors and contracts (by program: wip/whole/gen.py, mkparts.py) -/
def rmX0_size : Room := { frames := 0, cells := 0, slots := 0, locals := 0 }
theorem hv_X0_size : yX0_size.cls = RX0 ∧ yX0_size.cls ≠ "java/lang/invoke/MethodHandle" ∧ yX0_size.cls ≠ "java/lang/invoke/VarHandle" ∧ (parseMethodDescriptor yX0_size.desc).map (fun d => d.parameters.length) = some 0 := by decide +kernel
def m_X0_size (S : xS) : Option (Int) := some (S 50 0)
set_option maxRecDepth 100000 in
set_option maxHeartbeats 4000000 in
theorem c_X0_size {l : Launch} {D : va_G} {k : Nat → ClassId} {ad : Nat → Nat} {S : xS} {res : Int} (hM : m_X0_size S = some res) : xM l yX0_size wsX0_size rmX0_size D k [.ref (ad 35)] (wX ad k S) (some (.int (xi res))) (wX ad k S) := by
  refine xM_of (ret := (some .int)) (by decide) rfl (Nat.le_of_ble_eq_true rfl) (fun X C => ?_)
  have C : xC D k (xo X D k (some (.int (xi res))) (wX ad k S)) X cX0_size 1 RX0 wsX0_size (some .int) rmX0_size := C
  show xJ l D k (xo X D k (some (.int (xi res))) (wX ad k S)) X 1 0 [(0, .ref (ad 35))] [] (wX ad k S)
  unfold m_X0_size at hM
  refine xj_aload_n C 0 dX0_size_0 rfl rfl ?_
  refine xj_get C (v := .int (xi (S 50 0))) (fun _ h => List.mem_cons_of_mem _ (List.mem_append_right _ h)) 35 (eX_35 ad k S) rfl 9 (by decide) (List.mem_of_getElem? (i := 1) rfl) (fun _ _ h => h) rfl dX0_size_1 ?_
  obtain rfl := Option.some.inj hM
  exact xj_iret C rfl dX0_size_4
def rmX0_hasCell : Room := { frames := 0, cells := 0, slots := 0, locals := 0 }
theorem hv_X0_hasCell : yX0_hasCell.cls = RX0 ∧ yX0_hasCell.cls ≠ "java/lang/invoke/MethodHandle" ∧ yX0_hasCell.cls ≠ "java/lang/invoke/VarHandle" ∧ (parseMethodDescriptor yX0_hasCell.desc).map (fun d => d.parameters.length) = some 1 := by decide +kernel
def m_X0_hasCell (p1 : Int) (S : xS) : Option (Int) := xck (xr p1) (if p1 < 0 then some 0 else xck (xr (S 50 0)) (if (S 50 0) ≤ p1 then some 0 else (if 10 ≤ p1 then some 0 else some 1)))
set_option maxRecDepth 100000 in
set_option maxHeartbeats 4000000 in
theorem c_X0_hasCell {l : Launch} {D : va_G} {k : Nat → ClassId} {ad : Nat → Nat} {S : xS} {p1 : Int} {res : Int} (hM : m_X0_hasCell p1 S = some res) : xM l yX0_hasCell wsX0_hasCell rmX0_hasCell D k [.ref (ad 35), .int (xi p1)] (wX ad k S) (some (.int (xi res))) (wX ad k S) := by
  refine xM_of (ret := (some .boolean)) (by decide) rfl (Nat.le_of_ble_eq_true rfl) (fun X C => ?_)
  have C : xC D k (xo X D k (some (.int (xi res))) (wX ad k S)) X cX0_hasCell 2 RX0 wsX0_hasCell (some .boolean) rmX0_hasCell := C
  show xJ l D k (xo X D k (some (.int (xi res))) (wX ad k S)) X 2 0 [(0, .ref (ad 35)), (1, .int (xi p1))] [] (wX ad k S)
  unfold m_X0_hasCell at hM
  refine xj_iload_n C 1 dX0_hasCell_0 rfl rfl ?_
  obtain ⟨g1, hM⟩ := xck_some hM
  refine xj_if_lt C (tgt := 22) dX0_hasCell_1 (by decide) g1 (fun c2 => ?_) (fun c2 => ?_)
  · have hM := xit hM c2
    refine xj_iconst C dX0_hasCell_22 ?_
    obtain rfl := Option.some.inj hM
    exact xj_zret (Or.inl rfl) C rfl dX0_hasCell_23
  · have hM := xif hM c2
    refine xj_iload_n C 1 dX0_hasCell_4 rfl rfl ?_
    refine xj_aload_n C 0 dX0_hasCell_5 rfl rfl ?_
    refine xj_get C (v := .int (xi (S 50 0))) (fun _ h => List.mem_cons_of_mem _ (List.mem_append_right _ h)) 35 (eX_35 ad k S) rfl 9 (by decide) (List.mem_of_getElem? (i := 1) rfl) (fun _ _ h => h) rfl dX0_hasCell_6 ?_
    obtain ⟨g3, hM⟩ := xck_some hM
    refine xj_icmp_ge C (tgt := 22) dX0_hasCell_9 (by decide) ⟨g1, g3⟩ (fun c4 => ?_) (fun c4 => ?_)
    · have hM := xit hM c4
      refine xj_iconst C dX0_hasCell_22 ?_
      obtain rfl := Option.some.inj hM
      exact xj_zret (Or.inl rfl) C rfl dX0_hasCell_23
    · have hM := xif hM c4
      refine xj_iload_n C 1 dX0_hasCell_12 rfl rfl ?_
      refine xj_bipush C (n := 10) (by decide) dX0_hasCell_13 ?_
      refine xj_icmp_ge C (tgt := 22) dX0_hasCell_15 (by decide) ⟨g1, (by decide)⟩ (fun c5 => ?_) (fun c5 => ?_)
      · have hM := xit hM c5
        refine xj_iconst C dX0_hasCell_22 ?_
        obtain rfl := Option.some.inj hM
        exact xj_zret (Or.inl rfl) C rfl dX0_hasCell_23
      · have hM := xif hM c5
        refine xj_iconst C dX0_hasCell_18 ?_
        refine xj_goto C (tgt := 23) dX0_hasCell_19 (by decide) ?_
        obtain rfl := Option.some.inj hM
        exact xj_zret (Or.inr rfl) C rfl dX0_hasCell_23
def rmX0_addCell : Room := { frames := 0, cells := 0, slots := 0, locals := 0 }
theorem hv_X0_addCell : yX0_addCell.cls = RX0 ∧ yX0_addCell.cls ≠ "java/lang/invoke/MethodHandle" ∧ yX0_addCell.cls ≠ "java/lang/invoke/VarHandle" ∧ (parseMethodDescriptor yX0_addCell.desc).map (fun d => d.parameters.length) = some 3 := by decide +kernel
def m_X0_addCell (p1 : Int) (p2 : Int) (p3 : Int) (S : xS) : Option (Int × xS) := xck (xr (S 50 0)) (if (S 50 0) < 10 then xck (0 ≤ (S 50 0) ∧ (S 50 0) < 10) (xck ((0 ≤ (S 50 0) ∧ (S 50 0) < 10) ∧ (p2 = 0 ∨ p2 = 1)) ((xck (xr p3) (if p3 = 0 then some 0 else some 1)).bind (fun r5 => xck (xr p2) (if p2 = 0 then xck (0 ≤ (S 50 0) ∧ (S 50 0) < 14) (some ((S 50 0), (xup (xup (xup (xup (xup S 50 0 ((S 50 0) + 1)) 4 (S 50 0) p1) 5 (S 50 0) p2) 6 (S 50 0) r5) 9 (S 50 0) 0))) else xck (0 ≤ (S 50 0) ∧ (S 50 0) < 14) (some ((S 50 0), (xup (xup (xup (xup (xup S 50 0 ((S 50 0) + 1)) 4 (S 50 0) p1) 5 (S 50 0) p2) 6 (S 50 0) r5) 9 (S 50 0) ((xup (xup (xup (xup S 50 0 ((S 50 0) + 1)) 4 (S 50 0) p1) 5 (S 50 0) p2) 6 (S 50 0) r5) 6 (S 50 0))))))))) else some ((-1), S))
set_option maxRecDepth 100000 in
set_option maxHeartbeats 4000000 in
theorem c_X0_addCell {l : Launch} {D : va_G} {k : Nat → ClassId} {ad : Nat → Nat} {S : xS} {p1 : Int} {p2 : Int} {p3 : Int} {res : Int × xS} (hM : m_X0_addCell p1 p2 p3 S = some res) : xM l yX0_addCell wsX0_addCell rmX0_addCell D k [.ref (ad 35), .int (xi p1), .int (xi p2), .int (xi p3)] (wX ad k S) (some (.int (xi res.1))) (wX ad k res.2) := by
  refine xM_of (ret := (some .int)) (by decide) rfl (Nat.le_of_ble_eq_true rfl) (fun X C => ?_)
  have C : xC D k (xo X D k (some (.int (xi res.1))) (wX ad k res.2)) X cX0_addCell 5 RX0 wsX0_addCell (some .int) rmX0_addCell := C
  show xJ l D k (xo X D k (some (.int (xi res.1))) (wX ad k res.2)) X 5 0 [(0, .ref (ad 35)), (1, .int (xi p1)), (2, .int (xi p2)), (3, .int (xi p3))] [] (wX ad k S)
  unfold m_X0_addCell at hM
  refine xj_aload_n C 0 dX0_addCell_0 rfl rfl ?_
  refine xj_get C (v := .int (xi (S 50 0))) (fun _ h => List.mem_cons_of_mem _ (List.mem_append_right _ h)) 35 (eX_35 ad k S) rfl 9 (by decide) (List.mem_of_getElem? (i := 1) rfl) (fun _ _ h => h) rfl dX0_addCell_1 ?_
  refine xj_bipush C (n := 10) (by decide) dX0_addCell_4 ?_
  obtain ⟨g1, hM⟩ := xck_some hM
  refine xj_icmp_lt C (tgt := 11) dX0_addCell_6 (by decide) ⟨g1, (by decide)⟩ (fun c2 => ?_) (fun c2 => ?_)
  · have hM := xit hM c2
    refine xj_aload_n C 0 dX0_addCell_11 rfl rfl ?_
    refine xj_get C (v := .int (xi (S 50 0))) (fun _ h => List.mem_cons_of_mem _ (List.mem_append_right _ h)) 35 (eX_35 ad k S) rfl 9 (by decide) (List.mem_of_getElem? (i := 1) rfl) (fun _ _ h => h) rfl dX0_addCell_12 ?_
    refine xj_istore C (L1 := [(4, .int (xi (S 50 0))), (0, .ref (ad 35)), (1, .int (xi p1)), (2, .int (xi p2)), (3, .int (xi p3))]) dX0_addCell_15 (by decide) rfl ?_
    refine xj_aload_n C 1 dX0_addCell_17 rfl rfl ?_
    refine xj_dup C rfl dX0_addCell_18 ?_
    refine xj_get C (v := .int (xi (S 50 0))) (fun _ h => List.mem_cons_of_mem _ (List.mem_append_right _ h)) 35 (eX_35 ad k S) rfl 9 (by decide) (List.mem_of_getElem? (i := 1) rfl) (fun _ _ h => h) rfl dX0_addCell_19 ?_
    refine xj_iconst C dX0_addCell_22 ?_
    refine xj_iadd C dX0_addCell_23 ?_
    refine xj_put C (fun _ h => List.mem_cons_of_mem _ (List.mem_append_right _ h)) tyX0 tyX0_ok nmX0 35 (eX_35 ad k S) rfl 9 (by decide) (List.mem_of_getElem? (i := 1) rfl) (fun _ _ h => h) rfl (tyX0_ok 9 (by decide)) (Nat.le_of_ble_eq_true rfl) (sX_50 ad k S ((S 50 0) + 1)) dX0_addCell_24 ?_
    refine xj_aload_n C 1 dX0_addCell_27 rfl rfl ?_
    refine xj_get C (fun _ h => List.mem_cons_of_mem _ (List.mem_append_right _ h)) 35 (eX_35 ad k (xup S 50 0 ((S 50 0) + 1))) rfl 0 (by decide) (List.mem_of_getElem? (i := 2) rfl) (fun _ _ h => h) rfl dX0_addCell_28 ?_
    refine xj_iload C 0 dX0_addCell_31 rfl ?_
    refine xj_iload_n C 2 dX0_addCell_33 rfl rfl ?_
    obtain ⟨g3, hM⟩ := xck_some hM
    refine xj_iast C 4 (xup S 50 0 ((S 50 0) + 1)) 4 (eX_4 ad k (xup S 50 0 ((S 50 0) + 1))) (Nat.le_of_ble_eq_true rfl) g3 (sX_4 ad k (xup S 50 0 ((S 50 0) + 1)) (S 50 0) p1) dX0_addCell_34 ?_
    refine xj_aload_n C 1 dX0_addCell_35 rfl rfl ?_
    refine xj_get C (fun _ h => List.mem_cons_of_mem _ (List.mem_append_right _ h)) 35 (eX_35 ad k (xup (xup S 50 0 ((S 50 0) + 1)) 4 (S 50 0) p1)) rfl 1 (by decide) (List.mem_of_getElem? (i := 3) rfl) (fun _ _ h => h) rfl dX0_addCell_36 ?_
    refine xj_iload C 0 dX0_addCell_39 rfl ?_
    refine xj_iload_n C 3 dX0_addCell_41 rfl rfl ?_
    obtain ⟨g4, hM⟩ := xck_some hM
    refine xj_zast C 5 (xup (xup S 50 0 ((S 50 0) + 1)) 4 (S 50 0) p1) 5 (eX_5 ad k (xup (xup S 50 0 ((S 50 0) + 1)) 4 (S 50 0) p1)) (Nat.le_of_ble_eq_true rfl) g4.2 g4.1 (sX_5 ad k (xup (xup S 50 0 ((S 50 0) + 1)) 4 (S 50 0) p1) (S 50 0) p2) dX0_addCell_42 ?_
    refine xj_aload_n C 1 dX0_addCell_43 rfl rfl ?_
    refine xj_get C (fun _ h => List.mem_cons_of_mem _ (List.mem_append_right _ h)) 35 (eX_35 ad k (xup (xup (xup S 50 0 ((S 50 0) + 1)) 4 (S 50 0) p1) 5 (S 50 0) p2)) rfl 2 (by decide) (List.mem_of_getElem? (i := 4) rfl) (fun _ _ h => h) rfl dX0_addCell_44 ?_
    refine xj_iload C 0 dX0_addCell_47 rfl ?_
    refine xj_iload_n C 4 dX0_addCell_49 rfl rfl ?_
    obtain ⟨r5, hRr5, hM⟩ := xbd hM
    have Kr5 : xJ l D k (xo X D k (some (.int (xi res.1))) (wX ad k res.2)) X 5 58 [(0, .ref (ad 35)), (2, .int (xi p2)), (4, .int (xi (S 50 0)))] [.int (xi r5), .int (xi (S 50 0)), .ref (ad 6)] (wX ad k (xup (xup (xup S 50 0 ((S 50 0) + 1)) 4 (S 50 0) p1) 5 (S 50 0) p2)) := by
      refine xj_iast C 6 (xup (xup (xup S 50 0 ((S 50 0) + 1)) 4 (S 50 0) p1) 5 (S 50 0) p2) 6 (eX_6 ad k (xup (xup (xup S 50 0 ((S 50 0) + 1)) 4 (S 50 0) p1) 5 (S 50 0) p2)) (Nat.le_of_ble_eq_true rfl) g3 (sX_6 ad k (xup (xup (xup S 50 0 ((S 50 0) + 1)) 4 (S 50 0) p1) 5 (S 50 0) p2) (S 50 0) r5) dX0_addCell_58 ?_
      refine xj_aload_n C 0 dX0_addCell_59 rfl rfl ?_
      refine xj_get C (fun _ h => List.mem_cons_of_mem _ (List.mem_append_right _ h)) 35 (eX_35 ad k (xup (xup (xup (xup S 50 0 ((S 50 0) + 1)) 4 (S 50 0) p1) 5 (S 50 0) p2) 6 (S 50 0) r5)) rfl 5 (by decide) (List.mem_of_getElem? (i := 5) rfl) (fun _ _ h => h) rfl dX0_addCell_60 ?_
      refine xj_iload C 2 dX0_addCell_63 rfl ?_
      refine xj_iload_n C 1 dX0_addCell_65 rfl rfl ?_
      obtain ⟨g8, hM⟩ := xck_some hM
      refine xj_if_eq C (tgt := 79) dX0_addCell_66 (by decide) g8 (fun c9 => ?_) (fun c9 => ?_)
      · have hM := xit hM c9
        refine xj_iconst C dX0_addCell_79 ?_
        obtain ⟨g10, hM⟩ := xck_some hM
        refine xj_iast C 9 (xup (xup (xup (xup S 50 0 ((S 50 0) + 1)) 4 (S 50 0) p1) 5 (S 50 0) p2) 6 (S 50 0) r5) 9 (eX_9 ad k (xup (xup (xup (xup S 50 0 ((S 50 0) + 1)) 4 (S 50 0) p1) 5 (S 50 0) p2) 6 (S 50 0) r5)) (Nat.le_of_ble_eq_true rfl) g10 (sX_9 ad k (xup (xup (xup (xup S 50 0 ((S 50 0) + 1)) 4 (S 50 0) p1) 5 (S 50 0) p2) 6 (S 50 0) r5) (S 50 0) 0) dX0_addCell_80 ?_
        refine xj_iload C 2 dX0_addCell_81 rfl ?_
        obtain rfl := Option.some.inj hM
        exact xj_iret C rfl dX0_addCell_83
      · have hM := xif hM c9
        refine xj_aload_n C 0 dX0_addCell_69 rfl rfl ?_
        refine xj_get C (fun _ h => List.mem_cons_of_mem _ (List.mem_append_right _ h)) 35 (eX_35 ad k (xup (xup (xup (xup S 50 0 ((S 50 0) + 1)) 4 (S 50 0) p1) 5 (S 50 0) p2) 6 (S 50 0) r5)) rfl 2 (by decide) (List.mem_of_getElem? (i := 4) rfl) (fun _ _ h => h) rfl dX0_addCell_70 ?_
        refine xj_iload C 2 dX0_addCell_73 rfl ?_
        refine xj_iald C 6 (xup (xup (xup (xup S 50 0 ((S 50 0) + 1)) 4 (S 50 0) p1) 5 (S 50 0) p2) 6 (S 50 0) r5) 6 (eX_6 ad k (xup (xup (xup (xup S 50 0 ((S 50 0) + 1)) 4 (S 50 0) p1) 5 (S 50 0) p2) 6 (S 50 0) r5)) (Nat.le_of_ble_eq_true rfl) g3 dX0_addCell_75 ?_
        refine xj_goto C (tgt := 80) dX0_addCell_76 (by decide) ?_
        obtain ⟨g11, hM⟩ := xck_some hM
        refine xj_iast C 9 (xup (xup (xup (xup S 50 0 ((S 50 0) + 1)) 4 (S 50 0) p1) 5 (S 50 0) p2) 6 (S 50 0) r5) 9 (eX_9 ad k (xup (xup (xup (xup S 50 0 ((S 50 0) + 1)) 4 (S 50 0) p1) 5 (S 50 0) p2) 6 (S 50 0) r5)) (Nat.le_of_ble_eq_true rfl) g11 (sX_9 ad k (xup (xup (xup (xup S 50 0 ((S 50 0) + 1)) 4 (S 50 0) p1) 5 (S 50 0) p2) 6 (S 50 0) r5) (S 50 0) ((xup (xup (xup (xup S 50 0 ((S 50 0) + 1)) 4 (S 50 0) p1) 5 (S 50 0) p2) 6 (S 50 0) r5) 6 (S 50 0))) dX0_addCell_80 ?_
        refine xj_iload C 2 dX0_addCell_81 rfl ?_
        obtain rfl := Option.some.inj hM
        exact xj_iret C rfl dX0_addCell_83
    clear hM
    have hM := hRr5
    obtain ⟨g6, hM⟩ := xck_some hM
    refine xj_if_eq C (tgt := 57) dX0_addCell_50 (by decide) g6 (fun c7 => ?_) (fun c7 => ?_)
    · have hM := xit hM c7
      refine xj_iconst C dX0_addCell_57 ?_
      obtain rfl := Option.some.inj hM
      refine xj_loc C [1, 3, 0] (L1 := [(0, .ref (ad 35)), (2, .int (xi p2)), (4, .int (xi (S 50 0)))]) rfl ?_
      exact Kr5
    · have hM := xif hM c7
      refine xj_iconst C dX0_addCell_53 ?_
      refine xj_goto C (tgt := 58) dX0_addCell_54 (by decide) ?_
      obtain rfl := Option.some.inj hM
      refine xj_loc C [1, 3, 0] (L1 := [(0, .ref (ad 35)), (2, .int (xi p2)), (4, .int (xi (S 50 0)))]) rfl ?_
      exact Kr5
  · have hM := xif hM c2
    refine xj_iconst C dX0_addCell_9 ?_
    obtain rfl := Option.some.inj hM
    exact xj_iret C rfl dX0_addCell_10
def rmX0_isInput : Room := { frames := 0, cells := 0, slots := 0, locals := 0 }
theorem hv_X0_isInput : yX0_isInput.cls ≠ "java/lang/invoke/MethodHandle" ∧ yX0_isInput.cls ≠ "java/lang/invoke/VarHandle" ∧ (parseMethodDescriptor yX0_isInput.desc).map (fun d => d.parameters.length) = some 1 := by decide +kernel
def m_X0_isInput (p0 : Int) : Option (Int) := xck (xr p0) (if p0 < 10 then some 0 else (if 14 ≤ p0 then some 0 else some 1))
set_option maxRecDepth 100000 in
set_option maxHeartbeats 4000000 in
theorem c_X0_isInput {l : Launch} {D : va_G} {k : Nat → ClassId} {w : va_W} {p0 : Int} {res : Int} (hM : m_X0_isInput p0 = some res) : xM l yX0_isInput wsX0_isInput rmX0_isInput D k [.int (xi p0)] w (some (.int (xi res))) w := by
  refine xM_of (ret := (some .boolean)) (by decide) rfl (Nat.le_of_ble_eq_true rfl) (fun X C => ?_)
  have C : xC D k (xo X D k (some (.int (xi res))) w) X cX0_isInput 1 RX0 wsX0_isInput (some .boolean) rmX0_isInput := C
  show xJ l D k (xo X D k (some (.int (xi res))) w) X 1 0 [(0, .int (xi p0))] [] w
  unfold m_X0_isInput at hM
  refine xj_iload_n C 0 dX0_isInput_0 rfl rfl ?_
  refine xj_bipush C (n := 10) (by decide) dX0_isInput_1 ?_
  obtain ⟨g1, hM⟩ := xck_some hM
  refine xj_icmp_lt C (tgt := 16) dX0_isInput_3 (by decide) ⟨g1, (by decide)⟩ (fun c2 => ?_) (fun c2 => ?_)
  · have hM := xit hM c2
    refine xj_iconst C dX0_isInput_16 ?_
    obtain rfl := Option.some.inj hM
    exact xj_zret (Or.inl rfl) C rfl dX0_isInput_17
  · have hM := xif hM c2
    refine xj_iload_n C 0 dX0_isInput_6 rfl rfl ?_
    refine xj_bipush C (n := 14) (by decide) dX0_isInput_7 ?_
    refine xj_icmp_ge C (tgt := 16) dX0_isInput_9 (by decide) ⟨g1, (by decide)⟩ (fun c3 => ?_) (fun c3 => ?_)
    · have hM := xit hM c3
      refine xj_iconst C dX0_isInput_16 ?_
      obtain rfl := Option.some.inj hM
      exact xj_zret (Or.inl rfl) C rfl dX0_isInput_17
    · have hM := xif hM c3
      refine xj_iconst C dX0_isInput_12 ?_
      refine xj_goto C (tgt := 17) dX0_isInput_13 (by decide) ?_
      obtain rfl := Option.some.inj hM
      exact xj_zret (Or.inr rfl) C rfl dX0_isInput_17
def rmX0_setSource : Room := { frames := 1, cells := 0, slots := 0, locals := 21 }
theorem hv_X0_setSource : yX0_setSource.cls = RX0 ∧ yX0_setSource.cls ≠ "java/lang/invoke/MethodHandle" ∧ yX0_setSource.cls ≠ "java/lang/invoke/VarHandle" ∧ (parseMethodDescriptor yX0_setSource.desc).map (fun d => d.parameters.length) = some 2 := by decide +kernel
def m_X0_setSource (p1 : Int) (p2 : Int) (S : xS) : Option (Int × xS) := (xck (xr p2) (if p2 = (-1) then some 1 else (m_X0_hasCell p2 S).bind (fun r4 => xck (xr r4) (if r4 = 0 then (m_X0_isInput p2).bind (fun r7 => xck (xr r7) (if r7 = 0 then some 0 else some 1)) else some 1)))).bind (fun r1 => xck (xr r1) (if r1 = 0 then some (0, S) else xck (xr p1) (if p1 < 0 then some (0, S) else (if p1 < 34 then xck (0 ≤ p1 ∧ p1 < 34) (some (1, (xup S 8 p1 p2))) else some (0, S)))))
set_option maxRecDepth 100000 in
set_option maxHeartbeats 4000000 in
theorem c_X0_setSource {l : Launch} {D : va_G} {k : Nat → ClassId} {ad : Nat → Nat} {S : xS} {p1 : Int} {p2 : Int} {res : Int × xS} (hM : m_X0_setSource p1 p2 S = some res) : xM l yX0_setSource wsX0_setSource rmX0_setSource D k [.ref (ad 35), .int (xi p1), .int (xi p2)] (wX ad k S) (some (.int (xi res.1))) (wX ad k res.2) := by
  refine xM_of (ret := (some .boolean)) (by decide) rfl (Nat.le_of_ble_eq_true rfl) (fun X C => ?_)
  have C : xC D k (xo X D k (some (.int (xi res.1))) (wX ad k res.2)) X cX0_setSource 4 RX0 wsX0_setSource (some .boolean) rmX0_setSource := C
  show xJ l D k (xo X D k (some (.int (xi res.1))) (wX ad k res.2)) X 4 0 [(0, .ref (ad 35)), (1, .int (xi p1)), (2, .int (xi p2))] [] (wX ad k S)
  unfold m_X0_setSource at hM
  refine xj_iload_n C 2 dX0_setSource_0 rfl rfl ?_
  refine xj_iconst C dX0_setSource_1 ?_
  obtain ⟨r1, hRr1, hM⟩ := xbd hM
  have Kr1 : xJ l D k (xo X D k (some (.int (xi res.1))) (wX ad k res.2)) X 4 25 [(0, .ref (ad 35)), (1, .int (xi p1)), (2, .int (xi p2))] [.int (xi r1)] (wX ad k S) := by
    refine xj_istore_n C (L1 := [(3, .int (xi r1)), (0, .ref (ad 35)), (1, .int (xi p1)), (2, .int (xi p2))]) dX0_setSource_25 rfl (by decide) rfl ?_
    refine xj_iload_n C 0 dX0_setSource_26 rfl rfl ?_
    obtain ⟨g10, hM⟩ := xck_some hM
    refine xj_if_eq C (tgt := 40) dX0_setSource_27 (by decide) g10 (fun c11 => ?_) (fun c11 => ?_)
    · have hM := xit hM c11
      refine xj_iconst C dX0_setSource_40 ?_
      obtain rfl := Option.some.inj hM
      exact xj_zret (Or.inl rfl) C rfl dX0_setSource_41
    · have hM := xif hM c11
      refine xj_iload_n C 2 dX0_setSource_30 rfl rfl ?_
      obtain ⟨g12, hM⟩ := xck_some hM
      refine xj_if_lt C (tgt := 40) dX0_setSource_31 (by decide) g12 (fun c13 => ?_) (fun c13 => ?_)
      · have hM := xit hM c13
        refine xj_iconst C dX0_setSource_40 ?_
        obtain rfl := Option.some.inj hM
        exact xj_zret (Or.inl rfl) C rfl dX0_setSource_41
      · have hM := xif hM c13
        refine xj_iload_n C 2 dX0_setSource_34 rfl rfl ?_
        refine xj_bipush C (n := 34) (by decide) dX0_setSource_35 ?_
        refine xj_icmp_lt C (tgt := 42) dX0_setSource_37 (by decide) ⟨g12, (by decide)⟩ (fun c14 => ?_) (fun c14 => ?_)
        · have hM := xit hM c14
          refine xj_aload_n C 1 dX0_setSource_42 rfl rfl ?_
          refine xj_get C (fun _ h => List.mem_cons_of_mem _ (List.mem_append_right _ h)) 35 (eX_35 ad k S) rfl 4 (by decide) (List.mem_of_getElem? (i := 1) rfl) (fun _ _ h => h) rfl dX0_setSource_43 ?_
          refine xj_iload_n C 2 dX0_setSource_46 rfl rfl ?_
          refine xj_iload_n C 3 dX0_setSource_47 rfl rfl ?_
          obtain ⟨g15, hM⟩ := xck_some hM
          refine xj_iast C 8 S 8 (eX_8 ad k S) (Nat.le_of_ble_eq_true rfl) g15 (sX_8 ad k S p1 p2) dX0_setSource_48 ?_
          refine xj_iconst C dX0_setSource_49 ?_
          obtain rfl := Option.some.inj hM
          exact xj_zret (Or.inr rfl) C rfl dX0_setSource_50
        · have hM := xif hM c14
          refine xj_iconst C dX0_setSource_40 ?_
          obtain rfl := Option.some.inj hM
          exact xj_zret (Or.inl rfl) C rfl dX0_setSource_41
  clear hM
  have hM := hRr1
  obtain ⟨g2, hM⟩ := xck_some hM
  refine xj_icmp_eq C (tgt := 20) dX0_setSource_2 (by decide) ⟨g2, (by decide)⟩ (fun c3 => ?_) (fun c3 => ?_)
  · have hM := xit hM c3
    refine xj_iconst C dX0_setSource_20 ?_
    refine xj_goto C (tgt := 25) dX0_setSource_21 (by decide) ?_
    obtain rfl := Option.some.inj hM
    exact Kr1
  · have hM := xif hM c3
    refine xj_aload_n C 0 dX0_setSource_5 rfl rfl ?_
    refine xj_iload_n C 2 dX0_setSource_6 rfl rfl ?_
    obtain ⟨r4, hRr4, hM⟩ := xbd hM
    refine xj_callV C [.int (xi p2)] [] 1 (c_X0_hasCell hRr4) gX0_setSource_X0_hasCell rfl ⟨rfl, rfl⟩ hv_X0_hasCell ⟨Nat.le_of_ble_eq_true rfl, Nat.le_of_ble_eq_true rfl⟩ 35 (eX_35 ad k _) rfl rfl (Nat.le_of_ble_eq_true rfl) dX0_setSource_7 ?_
    obtain ⟨g5, hM⟩ := xck_some hM
    refine xj_if_ne C (tgt := 20) dX0_setSource_10 (by decide) g5 (fun c6 => ?_) (fun c6 => ?_)
    · have hM := xif hM c6
      refine xj_iconst C dX0_setSource_20 ?_
      refine xj_goto C (tgt := 25) dX0_setSource_21 (by decide) ?_
      obtain rfl := Option.some.inj hM
      exact Kr1
    · have hM := xit hM c6
      refine xj_iload_n C 2 dX0_setSource_13 rfl rfl ?_
      obtain ⟨r7, hRr7, hM⟩ := xbd hM
      refine xj_callS C [.int (xi p2)] [] 1 (c_X0_isInput hRr7) gX0_setSource_X0_isInput rfl ⟨rfl, rfl⟩ hv_X0_isInput ⟨Nat.le_of_ble_eq_true rfl, Nat.le_of_ble_eq_true rfl⟩ rfl (Nat.le_of_ble_eq_true rfl) dX0_setSource_14 ?_
      obtain ⟨g8, hM⟩ := xck_some hM
      refine xj_if_eq C (tgt := 24) dX0_setSource_17 (by decide) g8 (fun c9 => ?_) (fun c9 => ?_)
      · have hM := xit hM c9
        refine xj_iconst C dX0_setSource_24 ?_
        obtain rfl := Option.some.inj hM
        exact Kr1
      · have hM := xif hM c9
        refine xj_iconst C dX0_setSource_20 ?_
        refine xj_goto C (tgt := 25) dX0_setSource_21 (by decide) ?_
        obtain rfl := Option.some.inj hM
        exact Kr1
def rmX0_sourceOf : Room := { frames := 0, cells := 0, slots := 0, locals := 0 }
theorem hv_X0_sourceOf : yX0_sourceOf.cls = RX0 ∧ yX0_sourceOf.cls ≠ "java/lang/invoke/MethodHandle" ∧ yX0_sourceOf.cls ≠ "java/lang/invoke/VarHandle" ∧ (parseMethodDescriptor yX0_sourceOf.desc).map (fun d => d.parameters.length) = some 1 := by decide +kernel
def m_X0_sourceOf (p1 : Int) (S : xS) : Option (Int) := xck (xr p1) (if p1 < 0 then some (-1) else (if p1 < 34 then xck (0 ≤ p1 ∧ p1 < 34) (some (S 8 p1)) else some (-1)))
set_option maxRecDepth 100000 in
set_option maxHeartbeats 4000000 in
theorem c_X0_sourceOf {l : Launch} {D : va_G} {k : Nat → ClassId} {ad : Nat → Nat} {S : xS} {p1 : Int} {res : Int} (hM : m_X0_sourceOf p1 S = some res) : xM l yX0_sourceOf wsX0_sourceOf rmX0_sourceOf D k [.ref (ad 35), .int (xi p1)] (wX ad k S) (some (.int (xi res))) (wX ad k S) := by
  refine xM_of (ret := (some .int)) (by decide) rfl (Nat.le_of_ble_eq_true rfl) (fun X C => ?_)
  have C : xC D k (xo X D k (some (.int (xi res))) (wX ad k S)) X cX0_sourceOf 2 RX0 wsX0_sourceOf (some .int) rmX0_sourceOf := C
  show xJ l D k (xo X D k (some (.int (xi res))) (wX ad k S)) X 2 0 [(0, .ref (ad 35)), (1, .int (xi p1))] [] (wX ad k S)
  unfold m_X0_sourceOf at hM
  refine xj_iload_n C 1 dX0_sourceOf_0 rfl rfl ?_
  obtain ⟨g1, hM⟩ := xck_some hM
  refine xj_if_lt C (tgt := 10) dX0_sourceOf_1 (by decide) g1 (fun c2 => ?_) (fun c2 => ?_)
  · have hM := xit hM c2
    refine xj_iconst C dX0_sourceOf_10 ?_
    refine xj_goto C (tgt := 20) dX0_sourceOf_11 (by decide) ?_
    obtain rfl := Option.some.inj hM
    exact xj_iret C rfl dX0_sourceOf_20
  · have hM := xif hM c2
    refine xj_iload_n C 1 dX0_sourceOf_4 rfl rfl ?_
    refine xj_bipush C (n := 34) (by decide) dX0_sourceOf_5 ?_
    refine xj_icmp_lt C (tgt := 14) dX0_sourceOf_7 (by decide) ⟨g1, (by decide)⟩ (fun c3 => ?_) (fun c3 => ?_)
    · have hM := xit hM c3
      refine xj_aload_n C 0 dX0_sourceOf_14 rfl rfl ?_
      refine xj_get C (fun _ h => List.mem_cons_of_mem _ (List.mem_append_right _ h)) 35 (eX_35 ad k S) rfl 4 (by decide) (List.mem_of_getElem? (i := 1) rfl) (fun _ _ h => h) rfl dX0_sourceOf_15 ?_
      refine xj_iload_n C 1 dX0_sourceOf_18 rfl rfl ?_
      obtain ⟨g4, hM⟩ := xck_some hM
      refine xj_iald C 8 S 8 (eX_8 ad k S) (Nat.le_of_ble_eq_true rfl) g4 dX0_sourceOf_19 ?_
      obtain rfl := Option.some.inj hM
      exact xj_iret C rfl dX0_sourceOf_20
    · have hM := xif hM c3
      refine xj_iconst C dX0_sourceOf_10 ?_
      refine xj_goto C (tgt := 20) dX0_sourceOf_11 (by decide) ?_
      obtain rfl := Option.some.inj hM
      exact xj_iret C rfl dX0_sourceOf_20
def rmX0_setFixed : Room := { frames := 1, cells := 0, slots := 0, locals := 21 }
theorem hv_X0_setFixed : yX0_setFixed.cls = RX0 ∧ yX0_setFixed.cls ≠ "java/lang/invoke/MethodHandle" ∧ yX0_setFixed.cls ≠ "java/lang/invoke/VarHandle" ∧ (parseMethodDescriptor yX0_setFixed.desc).map (fun d => d.parameters.length) = some 2 := by decide +kernel
def m_X0_setFixed_L23 (p1 : Int) (p2 : Int) (S : xS) : Nat → Int → Option ((Unit) ⊕ (Int × xS))
  | 0, _ => none
  | n + 1, v3 => xck (xr v3 ∧ xr (S 50 0)) (if (S 50 0) ≤ v3 then some (.inl ()) else xck (xr p2) (if p2 = (-1) then m_X0_setFixed_L23 p1 p2 S n (v3 + 1) else xck (xr p1) (if v3 = p1 then m_X0_setFixed_L23 p1 p2 S n (v3 + 1) else xck (0 ≤ v3 ∧ v3 < 10) (xck (xr (S 7 v3)) (if (S 7 v3) = p2 then some (.inr (0, S)) else m_X0_setFixed_L23 p1 p2 S n (v3 + 1))))))
def m_X0_setFixed (p1 : Int) (p2 : Int) (S : xS) : Option (Int × xS) := (m_X0_hasCell p1 S).bind (fun r1 => xck (xr r1) (if r1 = 0 then some (0, S) else xck (xr p2) (if p2 < (-1) then some (0, S) else (if p2 < 16 then (m_X0_setFixed_L23 p1 p2 S 2000 0).bind (fun r16 => match r16 with | .inl t17 => xck (0 ≤ p1 ∧ p1 < 10) (some (1, (xup S 7 p1 p2))) | .inr y18 => some y18) else some (0, S)))))
set_option maxRecDepth 100000 in
set_option maxHeartbeats 4000000 in
theorem j_X0_setFixed_L23 {l : Launch} {D : va_G} {k : Nat → ClassId} {ad : Nat → Nat} {o : xO} {X : xX} (C : xC D k o X cX0_setFixed 4 RX0 wsX0_setFixed (some .boolean) rmX0_setFixed) (p1 : Int) (p2 : Int) (S : xS) : ∀ (n : Nat) (v3 : Int) (r : (Unit) ⊕ (Int × xS)), m_X0_setFixed_L23 p1 p2 S n v3 = some r → (∀ t, r = .inl t → xJ l D k o X 4 59 [(0, .ref (ad 35)), (1, .int (xi p1)), (2, .int (xi p2))] [] (wX ad k S)) → (∀ x, r = .inr x → o = (xo X D k (some (.int (xi x.1))) (wX ad k x.2))) → xJ l D k o X 4 23 [(0, .ref (ad 35)), (1, .int (xi p1)), (2, .int (xi p2)), (3, .int (xi v3))] [] (wX ad k S) := by
  intro n
  induction n with
  | zero =>
    intro v3 r hM
    cases hM
  | succ n ih =>
    intro v3 r hM K K2
    unfold m_X0_setFixed_L23 at hM
    refine xj_iload_n C 3 dX0_setFixed_23 rfl rfl ?_
    refine xj_aload_n C 0 dX0_setFixed_24 rfl rfl ?_
    refine xj_get C (v := .int (xi (S 50 0))) (fun _ h => List.mem_cons_of_mem _ (List.mem_append_right _ h)) 35 (eX_35 ad k S) rfl 9 (by decide) (List.mem_of_getElem? (i := 1) rfl) (fun _ _ h => h) rfl dX0_setFixed_25 ?_
    obtain ⟨g7, hM⟩ := xck_some hM
    refine xj_icmp_ge C (tgt := 59) dX0_setFixed_28 (by decide) ⟨g7.1, g7.2⟩ (fun c8 => ?_) (fun c8 => ?_)
    · have hM := xit hM c8
      obtain rfl := Option.some.inj hM
      refine xj_loc C [0, 1, 2] (L1 := [(0, .ref (ad 35)), (1, .int (xi p1)), (2, .int (xi p2))]) rfl ?_
      exact K _ rfl
    · have hM := xif hM c8
      refine xj_iload_n C 2 dX0_setFixed_31 rfl rfl ?_
      refine xj_iconst C dX0_setFixed_32 ?_
      obtain ⟨g9, hM⟩ := xck_some hM
      refine xj_icmp_eq C (tgt := 53) dX0_setFixed_33 (by decide) ⟨g9, (by decide)⟩ (fun c10 => ?_) (fun c10 => ?_)
      · have hM := xit hM c10
        refine xj_iinc C 3 (L1 := [(3, .int (xi (v3 + 1))), (0, .ref (ad 35)), (1, .int (xi p1)), (2, .int (xi p2))]) dX0_setFixed_53 rfl (by decide) rfl ?_
        refine xj_goto C (tgt := 23) dX0_setFixed_56 (by decide) ?_
        refine xj_loc C [1, 2, 3, 0] (L1 := [(0, .ref (ad 35)), (1, .int (xi p1)), (2, .int (xi p2)), (3, .int (xi (v3 + 1)))]) rfl ?_
        exact ih _ _ hM K K2
      · have hM := xif hM c10
        refine xj_iload_n C 3 dX0_setFixed_36 rfl rfl ?_
        refine xj_iload_n C 1 dX0_setFixed_37 rfl rfl ?_
        obtain ⟨g11, hM⟩ := xck_some hM
        refine xj_icmp_eq C (tgt := 53) dX0_setFixed_38 (by decide) ⟨g7.1, g11⟩ (fun c12 => ?_) (fun c12 => ?_)
        · have hM := xit hM c12
          refine xj_iinc C 3 (L1 := [(3, .int (xi (v3 + 1))), (0, .ref (ad 35)), (1, .int (xi p1)), (2, .int (xi p2))]) dX0_setFixed_53 rfl (by decide) rfl ?_
          refine xj_goto C (tgt := 23) dX0_setFixed_56 (by decide) ?_
          refine xj_loc C [1, 2, 3, 0] (L1 := [(0, .ref (ad 35)), (1, .int (xi p1)), (2, .int (xi p2)), (3, .int (xi (v3 + 1)))]) rfl ?_
          exact ih _ _ hM K K2
        · have hM := xif hM c12
          refine xj_aload_n C 0 dX0_setFixed_41 rfl rfl ?_
          refine xj_get C (fun _ h => List.mem_cons_of_mem _ (List.mem_append_right _ h)) 35 (eX_35 ad k S) rfl 3 (by decide) (List.mem_of_getElem? (i := 2) rfl) (fun _ _ h => h) rfl dX0_setFixed_42 ?_
          refine xj_iload_n C 3 dX0_setFixed_45 rfl rfl ?_
          obtain ⟨g13, hM⟩ := xck_some hM
          refine xj_iald C 7 S 7 (eX_7 ad k S) (Nat.le_of_ble_eq_true rfl) g13 dX0_setFixed_46 ?_
          refine xj_iload_n C 2 dX0_setFixed_47 rfl rfl ?_
          obtain ⟨g14, hM⟩ := xck_some hM
          refine xj_icmp_ne C (tgt := 53) dX0_setFixed_48 (by decide) ⟨g14, g9⟩ (fun c15 => ?_) (fun c15 => ?_)
          · have hM := xif hM c15
            refine xj_iinc C 3 (L1 := [(3, .int (xi (v3 + 1))), (0, .ref (ad 35)), (1, .int (xi p1)), (2, .int (xi p2))]) dX0_setFixed_53 rfl (by decide) rfl ?_
            refine xj_goto C (tgt := 23) dX0_setFixed_56 (by decide) ?_
            refine xj_loc C [1, 2, 3, 0] (L1 := [(0, .ref (ad 35)), (1, .int (xi p1)), (2, .int (xi p2)), (3, .int (xi (v3 + 1)))]) rfl ?_
            exact ih _ _ hM K K2
          · have hM := xit hM c15
            refine xj_iconst C dX0_setFixed_51 ?_
            obtain rfl := Option.some.inj hM
            obtain rfl := K2 _ rfl
            exact xj_zret (Or.inl rfl) C rfl dX0_setFixed_52
set_option maxRecDepth 100000 in
set_option maxHeartbeats 4000000 in
theorem c_X0_setFixed {l : Launch} {D : va_G} {k : Nat → ClassId} {ad : Nat → Nat} {S : xS} {p1 : Int} {p2 : Int} {res : Int × xS} (hM : m_X0_setFixed p1 p2 S = some res) : xM l yX0_setFixed wsX0_setFixed rmX0_setFixed D k [.ref (ad 35), .int (xi p1), .int (xi p2)] (wX ad k S) (some (.int (xi res.1))) (wX ad k res.2) := by
  refine xM_of (ret := (some .boolean)) (by decide) rfl (Nat.le_of_ble_eq_true rfl) (fun X C => ?_)
  have C : xC D k (xo X D k (some (.int (xi res.1))) (wX ad k res.2)) X cX0_setFixed 4 RX0 wsX0_setFixed (some .boolean) rmX0_setFixed := C
  show xJ l D k (xo X D k (some (.int (xi res.1))) (wX ad k res.2)) X 4 0 [(0, .ref (ad 35)), (1, .int (xi p1)), (2, .int (xi p2))] [] (wX ad k S)
  unfold m_X0_setFixed at hM
  refine xj_aload_n C 0 dX0_setFixed_0 rfl rfl ?_
  refine xj_iload_n C 1 dX0_setFixed_1 rfl rfl ?_
  obtain ⟨r1, hRr1, hM⟩ := xbd hM
  refine xj_callV C [.int (xi p1)] [] 1 (c_X0_hasCell hRr1) gX0_setFixed_X0_hasCell rfl ⟨rfl, rfl⟩ hv_X0_hasCell ⟨Nat.le_of_ble_eq_true rfl, Nat.le_of_ble_eq_true rfl⟩ 35 (eX_35 ad k _) rfl rfl (Nat.le_of_ble_eq_true rfl) dX0_setFixed_2 ?_
  obtain ⟨g2, hM⟩ := xck_some hM
  refine xj_if_eq C (tgt := 19) dX0_setFixed_5 (by decide) g2 (fun c3 => ?_) (fun c3 => ?_)
  · have hM := xit hM c3
    refine xj_iconst C dX0_setFixed_19 ?_
    obtain rfl := Option.some.inj hM
    exact xj_zret (Or.inl rfl) C rfl dX0_setFixed_20
  · have hM := xif hM c3
    refine xj_iload_n C 2 dX0_setFixed_8 rfl rfl ?_
    refine xj_iconst C dX0_setFixed_9 ?_
    obtain ⟨g4, hM⟩ := xck_some hM
    refine xj_icmp_lt C (tgt := 19) dX0_setFixed_10 (by decide) ⟨g4, (by decide)⟩ (fun c5 => ?_) (fun c5 => ?_)
    · have hM := xit hM c5
      refine xj_iconst C dX0_setFixed_19 ?_
      obtain rfl := Option.some.inj hM
      exact xj_zret (Or.inl rfl) C rfl dX0_setFixed_20
    · have hM := xif hM c5
      refine xj_iload_n C 2 dX0_setFixed_13 rfl rfl ?_
      refine xj_bipush C (n := 16) (by decide) dX0_setFixed_14 ?_
      refine xj_icmp_lt C (tgt := 21) dX0_setFixed_16 (by decide) ⟨g4, (by decide)⟩ (fun c6 => ?_) (fun c6 => ?_)
      · have hM := xit hM c6
        refine xj_iconst C dX0_setFixed_21 ?_
        refine xj_istore_n C (L1 := [(3, .int (xi 0)), (0, .ref (ad 35)), (1, .int (xi p1)), (2, .int (xi p2))]) dX0_setFixed_22 rfl (by decide) rfl ?_
        obtain ⟨r16, hLr16, hM⟩ := xbd hM
        refine xj_loc C [1, 2, 3, 0] (L1 := [(0, .ref (ad 35)), (1, .int (xi p1)), (2, .int (xi p2)), (3, .int (xi 0))]) rfl ?_
        rcases r16 with t17 | y18
        · refine j_X0_setFixed_L23 C p1 p2 S _ _ _ hLr16 (fun tz ez => ?_) (fun tz ez => by cases ez)
          obtain rfl := Sum.inl.inj ez
          try dsimp only at hM
          refine xj_aload_n C 0 dX0_setFixed_59 rfl rfl ?_
          refine xj_get C (fun _ h => List.mem_cons_of_mem _ (List.mem_append_right _ h)) 35 (eX_35 ad k S) rfl 3 (by decide) (List.mem_of_getElem? (i := 2) rfl) (fun _ _ h => h) rfl dX0_setFixed_60 ?_
          refine xj_iload_n C 1 dX0_setFixed_63 rfl rfl ?_
          refine xj_iload_n C 2 dX0_setFixed_64 rfl rfl ?_
          obtain ⟨g19, hM⟩ := xck_some hM
          refine xj_iast C 7 S 7 (eX_7 ad k S) (Nat.le_of_ble_eq_true rfl) g19 (sX_7 ad k S p1 p2) dX0_setFixed_65 ?_
          refine xj_iconst C dX0_setFixed_66 ?_
          obtain rfl := Option.some.inj hM
          exact xj_zret (Or.inr rfl) C rfl dX0_setFixed_67
        · refine j_X0_setFixed_L23 C p1 p2 S _ _ _ hLr16 (fun tz ez => by cases ez) (fun tz ez => ?_)
          obtain rfl := Sum.inr.inj ez
          try dsimp only at hM
          obtain rfl := Option.some.inj hM
          rfl
      · have hM := xif hM c6
        refine xj_iconst C dX0_setFixed_19 ?_
        obtain rfl := Option.some.inj hM
        exact xj_zret (Or.inl rfl) C rfl dX0_setFixed_20
def rmX0_fixedTile : Room := { frames := 1, cells := 0, slots := 0, locals := 21 }
theorem hv_X0_fixedTile : yX0_fixedTile.cls = RX0 ∧ yX0_fixedTile.cls ≠ "java/lang/invoke/MethodHandle" ∧ yX0_fixedTile.cls ≠ "java/lang/invoke/VarHandle" ∧ (parseMethodDescriptor yX0_fixedTile.desc).map (fun d => d.parameters.length) = some 1 := by decide +kernel
def m_X0_fixedTile (p1 : Int) (S : xS) : Option (Int) := (m_X0_hasCell p1 S).bind (fun r1 => xck (xr r1) (if r1 = 0 then some (-1) else xck (0 ≤ p1 ∧ p1 < 10) (some (S 7 p1))))
set_option maxRecDepth 100000 in
set_option maxHeartbeats 4000000 in
theorem c_X0_fixedTile {l : Launch} {D : va_G} {k : Nat → ClassId} {ad : Nat → Nat} {S : xS} {p1 : Int} {res : Int} (hM : m_X0_fixedTile p1 S = some res) : xM l yX0_fixedTile wsX0_fixedTile rmX0_fixedTile D k [.ref (ad 35), .int (xi p1)] (wX ad k S) (some (.int (xi res))) (wX ad k S) := by
  refine xM_of (ret := (some .int)) (by decide) rfl (Nat.le_of_ble_eq_true rfl) (fun X C => ?_)
  have C : xC D k (xo X D k (some (.int (xi res))) (wX ad k S)) X cX0_fixedTile 2 RX0 wsX0_fixedTile (some .int) rmX0_fixedTile := C
  show xJ l D k (xo X D k (some (.int (xi res))) (wX ad k S)) X 2 0 [(0, .ref (ad 35)), (1, .int (xi p1))] [] (wX ad k S)
  unfold m_X0_fixedTile at hM
  refine xj_aload_n C 0 dX0_fixedTile_0 rfl rfl ?_
  refine xj_iload_n C 1 dX0_fixedTile_1 rfl rfl ?_
  obtain ⟨r1, hRr1, hM⟩ := xbd hM
  refine xj_callV C [.int (xi p1)] [] 1 (c_X0_hasCell hRr1) gX0_fixedTile_X0_hasCell rfl ⟨rfl, rfl⟩ hv_X0_hasCell ⟨Nat.le_of_ble_eq_true rfl, Nat.le_of_ble_eq_true rfl⟩ 35 (eX_35 ad k _) rfl rfl (Nat.le_of_ble_eq_true rfl) dX0_fixedTile_2 ?_
  obtain ⟨g2, hM⟩ := xck_some hM
  refine xj_if_eq C (tgt := 17) dX0_fixedTile_5 (by decide) g2 (fun c3 => ?_) (fun c3 => ?_)
  · have hM := xit hM c3
    refine xj_iconst C dX0_fixedTile_17 ?_
    obtain rfl := Option.some.inj hM
    exact xj_iret C rfl dX0_fixedTile_18
  · have hM := xif hM c3
    refine xj_aload_n C 0 dX0_fixedTile_8 rfl rfl ?_
    refine xj_get C (fun _ h => List.mem_cons_of_mem _ (List.mem_append_right _ h)) 35 (eX_35 ad k S) rfl 3 (by decide) (List.mem_of_getElem? (i := 1) rfl) (fun _ _ h => h) rfl dX0_fixedTile_9 ?_
    refine xj_iload_n C 1 dX0_fixedTile_12 rfl rfl ?_
    obtain ⟨g4, hM⟩ := xck_some hM
    refine xj_iald C 7 S 7 (eX_7 ad k S) (Nat.le_of_ble_eq_true rfl) g4 dX0_fixedTile_13 ?_
    refine xj_goto C (tgt := 18) dX0_fixedTile_14 (by decide) ?_
    obtain rfl := Option.some.inj hM
    exact xj_iret C rfl dX0_fixedTile_18
def rmX0_settingsOf : Room := { frames := 1, cells := 0, slots := 0, locals := 21 }
theorem hv_X0_settingsOf : yX0_settingsOf.cls = RX0 ∧ yX0_settingsOf.cls ≠ "java/lang/invoke/MethodHandle" ∧ yX0_settingsOf.cls ≠ "java/lang/invoke/VarHandle" ∧ (parseMethodDescriptor yX0_settingsOf.desc).map (fun d => d.parameters.length) = some 1 := by decide +kernel
def m_X0_settingsOf (p1 : Int) (S : xS) : Option (Int64) := (m_X0_hasCell p1 S).bind (fun r1 => xck (xr r1) (if r1 = 0 then some (0 : Int64) else xck (0 ≤ p1 ∧ p1 < 10) ((xck (xr (S 5 p1)) (if (S 5 p1) = 0 then some 0 else some 1)).bind (fun r5 => some ((xi (xb_ior (xb_ior (S 4 p1) (xb_ishl r5 8)) (xb_ishl (S 6 p1) 9))).toInt64)))))
set_option maxRecDepth 100000 in
set_option maxHeartbeats 4000000 in
theorem c_X0_settingsOf {l : Launch} {D : va_G} {k : Nat → ClassId} {ad : Nat → Nat} {S : xS} {p1 : Int} {res : Int64} (hM : m_X0_settingsOf p1 S = some res) : xM l yX0_settingsOf wsX0_settingsOf rmX0_settingsOf D k [.ref (ad 35), .int (xi p1)] (wX ad k S) (some (.long res)) (wX ad k S) := by
  refine xM_of (ret := (some .long)) (by decide) rfl (Nat.le_of_ble_eq_true rfl) (fun X C => ?_)
  have C : xC D k (xo X D k (some (.long res)) (wX ad k S)) X cX0_settingsOf 3 RX0 wsX0_settingsOf (some .long) rmX0_settingsOf := C
  show xJ l D k (xo X D k (some (.long res)) (wX ad k S)) X 3 0 [(0, .ref (ad 35)), (1, .int (xi p1))] [] (wX ad k S)
  unfold m_X0_settingsOf at hM
  refine xj_aload_n C 0 dX0_settingsOf_0 rfl rfl ?_
  refine xj_iload_n C 1 dX0_settingsOf_1 rfl rfl ?_
  obtain ⟨r1, hRr1, hM⟩ := xbd hM
  refine xj_callV C [.int (xi p1)] [] 1 (c_X0_hasCell hRr1) gX0_settingsOf_X0_hasCell rfl ⟨rfl, rfl⟩ hv_X0_hasCell ⟨Nat.le_of_ble_eq_true rfl, Nat.le_of_ble_eq_true rfl⟩ 35 (eX_35 ad k _) rfl rfl (Nat.le_of_ble_eq_true rfl) dX0_settingsOf_2 ?_
  obtain ⟨g2, hM⟩ := xck_some hM
  refine xj_if_ne C (tgt := 10) dX0_settingsOf_5 (by decide) g2 (fun c3 => ?_) (fun c3 => ?_)
  · have hM := xif hM c3
    refine xj_aload_n C 0 dX0_settingsOf_10 rfl rfl ?_
    refine xj_get C (fun _ h => List.mem_cons_of_mem _ (List.mem_append_right _ h)) 35 (eX_35 ad k S) rfl 1 (by decide) (List.mem_of_getElem? (i := 1) rfl) (fun _ _ h => h) rfl dX0_settingsOf_11 ?_
    refine xj_iload_n C 1 dX0_settingsOf_14 rfl rfl ?_
    obtain ⟨g4, hM⟩ := xck_some hM
    refine xj_zald C 5 S 5 (eX_5 ad k S) (Nat.le_of_ble_eq_true rfl) g4 dX0_settingsOf_15 ?_
    obtain ⟨r5, hRr5, hM⟩ := xbd hM
    have Kr5 : xJ l D k (xo X D k (some (.long res)) (wX ad k S)) X 3 24 [(0, .ref (ad 35)), (1, .int (xi p1))] [.int (xi r5)] (wX ad k S) := by
      refine xj_istore_n C (L1 := [(2, .int (xi r5)), (0, .ref (ad 35)), (1, .int (xi p1))]) dX0_settingsOf_24 rfl (by decide) rfl ?_
      refine xj_aload_n C 1 dX0_settingsOf_25 rfl rfl ?_
      refine xj_get C (fun _ h => List.mem_cons_of_mem _ (List.mem_append_right _ h)) 35 (eX_35 ad k S) rfl 0 (by decide) (List.mem_of_getElem? (i := 2) rfl) (fun _ _ h => h) rfl dX0_settingsOf_26 ?_
      refine xj_iload_n C 2 dX0_settingsOf_29 rfl rfl ?_
      refine xj_iald C 4 S 4 (eX_4 ad k S) (Nat.le_of_ble_eq_true rfl) g4 dX0_settingsOf_30 ?_
      refine xj_iload_n C 0 dX0_settingsOf_31 rfl rfl ?_
      refine xj_bipush C (n := 8) (by decide) dX0_settingsOf_32 ?_
      refine xj_ishl C dX0_settingsOf_34 ?_
      refine xj_ior C dX0_settingsOf_35 ?_
      refine xj_aload_n C 1 dX0_settingsOf_36 rfl rfl ?_
      refine xj_get C (fun _ h => List.mem_cons_of_mem _ (List.mem_append_right _ h)) 35 (eX_35 ad k S) rfl 2 (by decide) (List.mem_of_getElem? (i := 3) rfl) (fun _ _ h => h) rfl dX0_settingsOf_37 ?_
      refine xj_iload_n C 2 dX0_settingsOf_40 rfl rfl ?_
      refine xj_iald C 6 S 6 (eX_6 ad k S) (Nat.le_of_ble_eq_true rfl) g4 dX0_settingsOf_41 ?_
      refine xj_bipush C (n := 9) (by decide) dX0_settingsOf_42 ?_
      refine xj_ishl C dX0_settingsOf_44 ?_
      refine xj_ior C dX0_settingsOf_45 ?_
      refine xj_i2l C dX0_settingsOf_46 ?_
      obtain rfl := Option.some.inj hM
      exact xj_lret C rfl dX0_settingsOf_47
    clear hM
    have hM := hRr5
    obtain ⟨g6, hM⟩ := xck_some hM
    refine xj_if_eq C (tgt := 23) dX0_settingsOf_16 (by decide) g6 (fun c7 => ?_) (fun c7 => ?_)
    · have hM := xit hM c7
      refine xj_iconst C dX0_settingsOf_23 ?_
      obtain rfl := Option.some.inj hM
      exact Kr5
    · have hM := xif hM c7
      refine xj_iconst C dX0_settingsOf_19 ?_
      refine xj_goto C (tgt := 24) dX0_settingsOf_20 (by decide) ?_
      obtain rfl := Option.some.inj hM
      exact Kr5
  · have hM := xit hM c3
    refine xj_lconst C (v := 0) rfl dX0_settingsOf_8 ?_
    obtain rfl := Option.some.inj hM
    exact xj_lret C rfl dX0_settingsOf_9
def rmX0_orderIfReady : Room := { frames := 1, cells := 0, slots := 0, locals := 21 }
theorem hv_X0_orderIfReady : yX0_orderIfReady.cls = RX0 ∧ yX0_orderIfReady.cls ≠ "java/lang/invoke/MethodHandle" ∧ yX0_orderIfReady.cls ≠ "java/lang/invoke/VarHandle" ∧ (parseMethodDescriptor yX0_orderIfReady.desc).map (fun d => d.parameters.length) = some 1 := by decide +kernel
def m_X0_orderIfReady_L21 (p1 : Int) (S : xS) : Nat → Int → Option ((Unit) ⊕ (xS))
  | 0, _ => none
  | n + 1, v2 => xck (xr v2) (if 3 ≤ v2 then some (.inl ()) else xck (0 ≤ ((p1 * 3) + v2) ∧ ((p1 * 3) + v2) < 34) ((m_X0_hasCell (S 8 ((p1 * 3) + v2)) S).bind (fun r9 => xck (xr r9) (if r9 = 0 then m_X0_orderIfReady_L21 p1 S n (v2 + 1) else xck (0 ≤ (S 8 ((p1 * 3) + v2)) ∧ (S 8 ((p1 * 3) + v2)) < 10) (xck (xr (S 12 (S 8 ((p1 * 3) + v2)))) (if (S 12 (S 8 ((p1 * 3) + v2))) = 0 then some (.inr S) else m_X0_orderIfReady_L21 p1 S n (v2 + 1)))))))
def m_X0_orderIfReady (p1 : Int) (S : xS) : Option (xS) := xck (0 ≤ p1 ∧ p1 < 10) (xck (xr (S 12 p1)) (if (S 12 p1) = 0 then xck (xr (S 51 0)) (if (S 51 0) < 10 then (m_X0_orderIfReady_L21 p1 S 2000 0).bind (fun r15 => match r15 with | .inl t16 => xck ((0 ≤ p1 ∧ p1 < 10)) (xck (0 ≤ (S 51 0) ∧ (S 51 0) < 10) (some (xup (xup (xup S 12 p1 1) 11 (S 51 0) p1) 51 0 ((S 51 0) + 1)))) | .inr y17 => some y17) else some S) else some S))
set_option maxRecDepth 100000 in
set_option maxHeartbeats 4000000 in
theorem j_X0_orderIfReady_L21 {l : Launch} {D : va_G} {k : Nat → ClassId} {ad : Nat → Nat} {o : xO} {X : xX} (C : xC D k o X cX0_orderIfReady 4 RX0 wsX0_orderIfReady none rmX0_orderIfReady) (p1 : Int) (S : xS) : ∀ (n : Nat) (v2 : Int) (r : (Unit) ⊕ (xS)), m_X0_orderIfReady_L21 p1 S n v2 = some r → (∀ t, r = .inl t → xJ l D k o X 4 61 [(0, .ref (ad 35)), (1, .int (xi p1))] [] (wX ad k S)) → (∀ x, r = .inr x → o = (xo X D k none (wX ad k x))) → xJ l D k o X 4 21 [(0, .ref (ad 35)), (1, .int (xi p1)), (2, .int (xi v2))] [] (wX ad k S) := by
  intro n
  induction n with
  | zero =>
    intro v2 r hM
    cases hM
  | succ n ih =>
    intro v2 r hM K K2
    unfold m_X0_orderIfReady_L21 at hM
    refine xj_iload_n C 2 dX0_orderIfReady_21 rfl rfl ?_
    refine xj_iconst C dX0_orderIfReady_22 ?_
    obtain ⟨g6, hM⟩ := xck_some hM
    refine xj_icmp_ge C (tgt := 61) dX0_orderIfReady_23 (by decide) ⟨g6, (by decide)⟩ (fun c7 => ?_) (fun c7 => ?_)
    · have hM := xit hM c7
      obtain rfl := Option.some.inj hM
      refine xj_loc C [0, 1] (L1 := [(0, .ref (ad 35)), (1, .int (xi p1))]) rfl ?_
      exact K _ rfl
    · have hM := xif hM c7
      refine xj_aload_n C 0 dX0_orderIfReady_26 rfl rfl ?_
      refine xj_get C (fun _ h => List.mem_cons_of_mem _ (List.mem_append_right _ h)) 35 (eX_35 ad k S) rfl 4 (by decide) (List.mem_of_getElem? (i := 3) rfl) (fun _ _ h => h) rfl dX0_orderIfReady_27 ?_
      refine xj_iload_n C 1 dX0_orderIfReady_30 rfl rfl ?_
      refine xj_iconst C dX0_orderIfReady_31 ?_
      refine xj_imul C dX0_orderIfReady_32 ?_
      refine xj_iload_n C 2 dX0_orderIfReady_33 rfl rfl ?_
      refine xj_iadd C dX0_orderIfReady_34 ?_
      obtain ⟨g8, hM⟩ := xck_some hM
      refine xj_iald C 8 S 8 (eX_8 ad k S) (Nat.le_of_ble_eq_true rfl) g8 dX0_orderIfReady_35 ?_
      refine xj_istore_n C (L1 := [(3, .int (xi (S 8 ((p1 * 3) + v2)))), (0, .ref (ad 35)), (1, .int (xi p1)), (2, .int (xi v2))]) dX0_orderIfReady_36 rfl (by decide) rfl ?_
      refine xj_aload_n C 1 dX0_orderIfReady_37 rfl rfl ?_
      refine xj_iload_n C 0 dX0_orderIfReady_38 rfl rfl ?_
      obtain ⟨r9, hRr9, hM⟩ := xbd hM
      refine xj_callV C [.int (xi (S 8 ((p1 * 3) + v2)))] [] 1 (c_X0_hasCell hRr9) gX0_orderIfReady_X0_hasCell rfl ⟨rfl, rfl⟩ hv_X0_hasCell ⟨Nat.le_of_ble_eq_true rfl, Nat.le_of_ble_eq_true rfl⟩ 35 (eX_35 ad k _) rfl rfl (Nat.le_of_ble_eq_true rfl) dX0_orderIfReady_39 ?_
      obtain ⟨g10, hM⟩ := xck_some hM
      refine xj_if_eq C (tgt := 55) dX0_orderIfReady_42 (by decide) g10 (fun c11 => ?_) (fun c11 => ?_)
      · have hM := xit hM c11
        refine xj_iinc C 3 (L1 := [(2, .int (xi (v2 + 1))), (3, .int (xi (S 8 ((p1 * 3) + v2)))), (0, .ref (ad 35)), (1, .int (xi p1))]) dX0_orderIfReady_55 rfl (by decide) rfl ?_
        refine xj_goto C (tgt := 21) dX0_orderIfReady_58 (by decide) ?_
        refine xj_loc C [2, 3, 0] (L1 := [(0, .ref (ad 35)), (1, .int (xi p1)), (2, .int (xi (v2 + 1)))]) rfl ?_
        exact ih _ _ hM K K2
      · have hM := xif hM c11
        refine xj_aload_n C 1 dX0_orderIfReady_45 rfl rfl ?_
        refine xj_get C (fun _ h => List.mem_cons_of_mem _ (List.mem_append_right _ h)) 35 (eX_35 ad k S) rfl 8 (by decide) (List.mem_of_getElem? (i := 1) rfl) (fun _ _ h => h) rfl dX0_orderIfReady_46 ?_
        refine xj_iload_n C 0 dX0_orderIfReady_49 rfl rfl ?_
        obtain ⟨g12, hM⟩ := xck_some hM
        refine xj_zald C 12 S 12 (eX_12 ad k S) (Nat.le_of_ble_eq_true rfl) g12 dX0_orderIfReady_50 ?_
        obtain ⟨g13, hM⟩ := xck_some hM
        refine xj_if_ne C (tgt := 55) dX0_orderIfReady_51 (by decide) g13 (fun c14 => ?_) (fun c14 => ?_)
        · have hM := xif hM c14
          refine xj_iinc C 3 (L1 := [(2, .int (xi (v2 + 1))), (3, .int (xi (S 8 ((p1 * 3) + v2)))), (0, .ref (ad 35)), (1, .int (xi p1))]) dX0_orderIfReady_55 rfl (by decide) rfl ?_
          refine xj_goto C (tgt := 21) dX0_orderIfReady_58 (by decide) ?_
          refine xj_loc C [2, 3, 0] (L1 := [(0, .ref (ad 35)), (1, .int (xi p1)), (2, .int (xi (v2 + 1)))]) rfl ?_
          exact ih _ _ hM K K2
        · have hM := xit hM c14
          obtain rfl := Option.some.inj hM
          obtain rfl := K2 _ rfl
          exact xj_vret C rfl dX0_orderIfReady_54
set_option maxRecDepth 100000 in
set_option maxHeartbeats 4000000 in
theorem c_X0_orderIfReady {l : Launch} {D : va_G} {k : Nat → ClassId} {ad : Nat → Nat} {S : xS} {p1 : Int} {res : xS} (hM : m_X0_orderIfReady p1 S = some res) : xM l yX0_orderIfReady wsX0_orderIfReady rmX0_orderIfReady D k [.ref (ad 35), .int (xi p1)] (wX ad k S) none (wX ad k res) := by
  refine xM_of (ret := none) (by decide) rfl (Nat.le_of_ble_eq_true rfl) (fun X C => ?_)
  have C : xC D k (xo X D k none (wX ad k res)) X cX0_orderIfReady 4 RX0 wsX0_orderIfReady none rmX0_orderIfReady := C
  show xJ l D k (xo X D k none (wX ad k res)) X 4 0 [(0, .ref (ad 35)), (1, .int (xi p1))] [] (wX ad k S)
  unfold m_X0_orderIfReady at hM
  refine xj_aload_n C 0 dX0_orderIfReady_0 rfl rfl ?_
  refine xj_get C (fun _ h => List.mem_cons_of_mem _ (List.mem_append_right _ h)) 35 (eX_35 ad k S) rfl 8 (by decide) (List.mem_of_getElem? (i := 1) rfl) (fun _ _ h => h) rfl dX0_orderIfReady_1 ?_
  refine xj_iload_n C 1 dX0_orderIfReady_4 rfl rfl ?_
  obtain ⟨g1, hM⟩ := xck_some hM
  refine xj_zald C 12 S 12 (eX_12 ad k S) (Nat.le_of_ble_eq_true rfl) g1 dX0_orderIfReady_5 ?_
  obtain ⟨g2, hM⟩ := xck_some hM
  refine xj_if_ne C (tgt := 18) dX0_orderIfReady_6 (by decide) g2 (fun c3 => ?_) (fun c3 => ?_)
  · have hM := xif hM c3
    obtain rfl := Option.some.inj hM
    exact xj_vret C rfl dX0_orderIfReady_18
  · have hM := xit hM c3
    refine xj_aload_n C 0 dX0_orderIfReady_9 rfl rfl ?_
    refine xj_get C (v := .int (xi (S 51 0))) (fun _ h => List.mem_cons_of_mem _ (List.mem_append_right _ h)) 35 (eX_35 ad k S) rfl 10 (by decide) (List.mem_of_getElem? (i := 2) rfl) (fun _ _ h => h) rfl dX0_orderIfReady_10 ?_
    refine xj_bipush C (n := 10) (by decide) dX0_orderIfReady_13 ?_
    obtain ⟨g4, hM⟩ := xck_some hM
    refine xj_icmp_lt C (tgt := 19) dX0_orderIfReady_15 (by decide) ⟨g4, (by decide)⟩ (fun c5 => ?_) (fun c5 => ?_)
    · have hM := xit hM c5
      refine xj_iconst C dX0_orderIfReady_19 ?_
      refine xj_istore_n C (L1 := [(2, .int (xi 0)), (0, .ref (ad 35)), (1, .int (xi p1))]) dX0_orderIfReady_20 rfl (by decide) rfl ?_
      obtain ⟨r15, hLr15, hM⟩ := xbd hM
      refine xj_loc C [1, 2, 0] (L1 := [(0, .ref (ad 35)), (1, .int (xi p1)), (2, .int (xi 0))]) rfl ?_
      rcases r15 with t16 | y17
      · refine j_X0_orderIfReady_L21 C p1 S _ _ _ hLr15 (fun tz ez => ?_) (fun tz ez => by cases ez)
        obtain rfl := Sum.inl.inj ez
        try dsimp only at hM
        refine xj_aload_n C 0 dX0_orderIfReady_61 rfl rfl ?_
        refine xj_get C (fun _ h => List.mem_cons_of_mem _ (List.mem_append_right _ h)) 35 (eX_35 ad k S) rfl 8 (by decide) (List.mem_of_getElem? (i := 1) rfl) (fun _ _ h => h) rfl dX0_orderIfReady_62 ?_
        refine xj_iload_n C 1 dX0_orderIfReady_65 rfl rfl ?_
        refine xj_iconst C dX0_orderIfReady_66 ?_
        obtain ⟨g18, hM⟩ := xck_some hM
        refine xj_zast C 12 S 12 (eX_12 ad k S) (Nat.le_of_ble_eq_true rfl) (Or.inr rfl) g18 (sX_12 ad k S p1 1) dX0_orderIfReady_67 ?_
        refine xj_aload_n C 0 dX0_orderIfReady_68 rfl rfl ?_
        refine xj_get C (fun _ h => List.mem_cons_of_mem _ (List.mem_append_right _ h)) 35 (eX_35 ad k (xup S 12 p1 1)) rfl 7 (by decide) (List.mem_of_getElem? (i := 4) rfl) (fun _ _ h => h) rfl dX0_orderIfReady_69 ?_
        refine xj_aload_n C 0 dX0_orderIfReady_72 rfl rfl ?_
        refine xj_get C (v := .int (xi (S 51 0))) (fun _ h => List.mem_cons_of_mem _ (List.mem_append_right _ h)) 35 (eX_35 ad k (xup S 12 p1 1)) rfl 10 (by decide) (List.mem_of_getElem? (i := 2) rfl) (fun _ _ h => h) rfl dX0_orderIfReady_73 ?_
        refine xj_iload_n C 1 dX0_orderIfReady_76 rfl rfl ?_
        obtain ⟨g19, hM⟩ := xck_some hM
        refine xj_iast C 11 (xup S 12 p1 1) 11 (eX_11 ad k (xup S 12 p1 1)) (Nat.le_of_ble_eq_true rfl) g19 (sX_11 ad k (xup S 12 p1 1) (S 51 0) p1) dX0_orderIfReady_77 ?_
        refine xj_aload_n C 0 dX0_orderIfReady_78 rfl rfl ?_
        refine xj_dup C rfl dX0_orderIfReady_79 ?_
        refine xj_get C (v := .int (xi (S 51 0))) (fun _ h => List.mem_cons_of_mem _ (List.mem_append_right _ h)) 35 (eX_35 ad k (xup (xup S 12 p1 1) 11 (S 51 0) p1)) rfl 10 (by decide) (List.mem_of_getElem? (i := 2) rfl) (fun _ _ h => h) rfl dX0_orderIfReady_80 ?_
        refine xj_iconst C dX0_orderIfReady_83 ?_
        refine xj_iadd C dX0_orderIfReady_84 ?_
        refine xj_put C (fun _ h => List.mem_cons_of_mem _ (List.mem_append_right _ h)) tyX0 tyX0_ok nmX0 35 (eX_35 ad k (xup (xup S 12 p1 1) 11 (S 51 0) p1)) rfl 10 (by decide) (List.mem_of_getElem? (i := 2) rfl) (fun _ _ h => h) rfl (tyX0_ok 10 (by decide)) (Nat.le_of_ble_eq_true rfl) (sX_51 ad k (xup (xup S 12 p1 1) 11 (S 51 0) p1) ((S 51 0) + 1)) dX0_orderIfReady_85 ?_
        obtain rfl := Option.some.inj hM
        exact xj_vret C rfl dX0_orderIfReady_88
      · refine j_X0_orderIfReady_L21 C p1 S _ _ _ hLr15 (fun tz ez => by cases ez) (fun tz ez => ?_)
        obtain rfl := Sum.inr.inj ez
        try dsimp only at hM
        obtain rfl := Option.some.inj hM
        rfl
    · have hM := xif hM c5
      obtain rfl := Option.some.inj hM
      exact xj_vret C rfl dX0_orderIfReady_18
def rmX0_hasRing : Room := { frames := 2, cells := 0, slots := 0, locals := 44 }
theorem hv_X0_hasRing : yX0_hasRing.cls = RX0 ∧ yX0_hasRing.cls ≠ "java/lang/invoke/MethodHandle" ∧ yX0_hasRing.cls ≠ "java/lang/invoke/VarHandle" ∧ (parseMethodDescriptor yX0_hasRing.desc).map (fun d => d.parameters.length) = some 0 := by decide +kernel
def m_X0_hasRing_L9 : Nat → Int → Int → xS → Option (Int × xS)
  | 0, _, _, _ => none
  | n + 1, v1, v2, S => xck (xr v2 ∧ xr (S 50 0)) (if (S 50 0) ≤ v2 then some (v1, S) else xck (0 ≤ v2 ∧ v2 < 10) (xck ((0 ≤ v2 ∧ v2 < 10) ∧ ((S 5 v2) = 0 ∨ (S 5 v2) = 1)) ((xck (xr (S 5 v2)) (if (S 5 v2) = 0 then some 1 else some 0)).bind (fun r5 => m_X0_hasRing_L9 n (v1 + r5) (v2 + 1) (xup S 12 v2 (S 5 v2))))))
def m_X0_hasRing_L70 (p1 : Int) (p2 : Int) : Nat → Int → xS → Option (xS)
  | 0, _, _ => none
  | n + 1, v3, S => xck (xr v3 ∧ xr (S 50 0)) (if (S 50 0) ≤ v3 then some S else (m_X0_orderIfReady v3 S).bind (fun r15 => m_X0_hasRing_L70 p1 p2 n (v3 + 1) r15))
def m_X0_hasRing_L54 (p1 : Int) : Nat → Int → xS → Option (xS)
  | 0, _, _ => none
  | n + 1, v2, S => xck (xr v2) (if 10 ≤ v2 then some S else xck (xr (S 51 0) ∧ xr p1) (if p1 ≤ (S 51 0) then some S else (m_X0_hasRing_L70 p1 v2 2000 0 S).bind (fun r16 => m_X0_hasRing_L54 p1 n (v2 + 1) r16)))
def m_X0_hasRing (S : xS) : Option (Int × xS) := (m_X0_hasRing_L9 2000 0 0 (xup S 51 0 0)).bind (fun r8 => (m_X0_hasRing_L54 r8.1 2000 0 r8.2).bind (fun r17 => xck (xr (r17 51 0) ∧ xr r8.1) (if r8.1 ≤ (r17 51 0) then some (0, r17) else some (1, r17))))
set_option maxRecDepth 100000 in
set_option maxHeartbeats 4000000 in
theorem j_X0_hasRing_L9 {l : Launch} {D : va_G} {k : Nat → ClassId} {ad : Nat → Nat} {o : xO} {X : xX} (C : xC D k o X cX0_hasRing 4 RX0 wsX0_hasRing (some .boolean) rmX0_hasRing) : ∀ (n : Nat) (v1 : Int) (v2 : Int) (S : xS) (r : Int × xS), m_X0_hasRing_L9 n v1 v2 S = some r → (xJ l D k o X 4 52 [(0, .ref (ad 35)), (1, .int (xi r.1))] [] (wX ad k r.2)) → xJ l D k o X 4 9 [(0, .ref (ad 35)), (1, .int (xi v1)), (2, .int (xi v2))] [] (wX ad k S) := by
  intro n
  induction n with
  | zero =>
    intro v1 v2 S r hM
    cases hM
  | succ n ih =>
    intro v1 v2 S r hM K
    unfold m_X0_hasRing_L9 at hM
    refine xj_iload_n C 2 dX0_hasRing_9 rfl rfl ?_
    refine xj_aload_n C 0 dX0_hasRing_10 rfl rfl ?_
    refine xj_get C (v := .int (xi (S 50 0))) (fun _ h => List.mem_cons_of_mem _ (List.mem_append_right _ h)) 35 (eX_35 ad k S) rfl 9 (by decide) (List.mem_of_getElem? (i := 2) rfl) (fun _ _ h => h) rfl dX0_hasRing_11 ?_
    obtain ⟨g1, hM⟩ := xck_some hM
    refine xj_icmp_ge C (tgt := 52) dX0_hasRing_14 (by decide) ⟨g1.1, g1.2⟩ (fun c2 => ?_) (fun c2 => ?_)
    · have hM := xit hM c2
      obtain rfl := Option.some.inj hM
      refine xj_loc C [0, 1] (L1 := [(0, .ref (ad 35)), (1, .int (xi v1))]) rfl ?_
      exact K
    · have hM := xif hM c2
      refine xj_aload_n C 0 dX0_hasRing_17 rfl rfl ?_
      refine xj_get C (fun _ h => List.mem_cons_of_mem _ (List.mem_append_right _ h)) 35 (eX_35 ad k S) rfl 8 (by decide) (List.mem_of_getElem? (i := 3) rfl) (fun _ _ h => h) rfl dX0_hasRing_18 ?_
      refine xj_iload_n C 2 dX0_hasRing_21 rfl rfl ?_
      refine xj_aload_n C 0 dX0_hasRing_22 rfl rfl ?_
      refine xj_get C (fun _ h => List.mem_cons_of_mem _ (List.mem_append_right _ h)) 35 (eX_35 ad k S) rfl 1 (by decide) (List.mem_of_getElem? (i := 4) rfl) (fun _ _ h => h) rfl dX0_hasRing_23 ?_
      refine xj_iload_n C 2 dX0_hasRing_26 rfl rfl ?_
      obtain ⟨g3, hM⟩ := xck_some hM
      refine xj_zald C 5 S 5 (eX_5 ad k S) (Nat.le_of_ble_eq_true rfl) g3 dX0_hasRing_27 ?_
      obtain ⟨g4, hM⟩ := xck_some hM
      refine xj_zast C 12 S 12 (eX_12 ad k S) (Nat.le_of_ble_eq_true rfl) g4.2 g4.1 (sX_12 ad k S v2 (S 5 v2)) dX0_hasRing_28 ?_
      refine xj_iload_n C 1 dX0_hasRing_29 rfl rfl ?_
      refine xj_aload_n C 0 dX0_hasRing_30 rfl rfl ?_
      refine xj_get C (fun _ h => List.mem_cons_of_mem _ (List.mem_append_right _ h)) 35 (eX_35 ad k (xup S 12 v2 (S 5 v2))) rfl 1 (by decide) (List.mem_of_getElem? (i := 4) rfl) (fun _ _ h => h) rfl dX0_hasRing_31 ?_
      refine xj_iload_n C 2 dX0_hasRing_34 rfl rfl ?_
      refine xj_zald C 5 S 5 (eX_5 ad k (xup S 12 v2 (S 5 v2))) (Nat.le_of_ble_eq_true rfl) g3 dX0_hasRing_35 ?_
      obtain ⟨r5, hRr5, hM⟩ := xbd hM
      have Kr5 : xJ l D k o X 4 44 [(0, .ref (ad 35)), (2, .int (xi v2))] [.int (xi r5), .int (xi v1)] (wX ad k (xup S 12 v2 (S 5 v2))) := by
        refine xj_iadd C dX0_hasRing_44 ?_
        refine xj_istore_n C (L1 := [(1, .int (xi (v1 + r5))), (0, .ref (ad 35)), (2, .int (xi v2))]) dX0_hasRing_45 rfl (by decide) rfl ?_
        refine xj_iinc C 2 (L1 := [(2, .int (xi (v2 + 1))), (1, .int (xi (v1 + r5))), (0, .ref (ad 35))]) dX0_hasRing_46 rfl (by decide) rfl ?_
        refine xj_goto C (tgt := 9) dX0_hasRing_49 (by decide) ?_
        refine xj_loc C [2, 1, 0] (L1 := [(0, .ref (ad 35)), (1, .int (xi (v1 + r5))), (2, .int (xi (v2 + 1)))]) rfl ?_
        exact ih _ _ _ _ hM K
      clear hM
      have hM := hRr5
      obtain ⟨g6, hM⟩ := xck_some hM
      refine xj_if_eq C (tgt := 43) dX0_hasRing_36 (by decide) g6 (fun c7 => ?_) (fun c7 => ?_)
      · have hM := xit hM c7
        refine xj_iconst C dX0_hasRing_43 ?_
        obtain rfl := Option.some.inj hM
        refine xj_loc C [0, 2] (L1 := [(0, .ref (ad 35)), (2, .int (xi v2))]) rfl ?_
        exact Kr5
      · have hM := xif hM c7
        refine xj_iconst C dX0_hasRing_39 ?_
        refine xj_goto C (tgt := 44) dX0_hasRing_40 (by decide) ?_
        obtain rfl := Option.some.inj hM
        refine xj_loc C [0, 2] (L1 := [(0, .ref (ad 35)), (2, .int (xi v2))]) rfl ?_
        exact Kr5
set_option maxRecDepth 100000 in
set_option maxHeartbeats 4000000 in
theorem j_X0_hasRing_L70 {l : Launch} {D : va_G} {k : Nat → ClassId} {ad : Nat → Nat} {o : xO} {X : xX} (C : xC D k o X cX0_hasRing 4 RX0 wsX0_hasRing (some .boolean) rmX0_hasRing) (p1 : Int) (p2 : Int) : ∀ (n : Nat) (v3 : Int) (S : xS) (r : xS), m_X0_hasRing_L70 p1 p2 n v3 S = some r → (xJ l D k o X 4 89 [(0, .ref (ad 35)), (1, .int (xi p1)), (2, .int (xi p2))] [] (wX ad k r)) → xJ l D k o X 4 70 [(0, .ref (ad 35)), (1, .int (xi p1)), (2, .int (xi p2)), (3, .int (xi v3))] [] (wX ad k S) := by
  intro n
  induction n with
  | zero =>
    intro v3 S r hM
    cases hM
  | succ n ih =>
    intro v3 S r hM K
    unfold m_X0_hasRing_L70 at hM
    refine xj_iload_n C 3 dX0_hasRing_70 rfl rfl ?_
    refine xj_aload_n C 0 dX0_hasRing_71 rfl rfl ?_
    refine xj_get C (v := .int (xi (S 50 0))) (fun _ h => List.mem_cons_of_mem _ (List.mem_append_right _ h)) 35 (eX_35 ad k S) rfl 9 (by decide) (List.mem_of_getElem? (i := 2) rfl) (fun _ _ h => h) rfl dX0_hasRing_72 ?_
    obtain ⟨g13, hM⟩ := xck_some hM
    refine xj_icmp_ge C (tgt := 89) dX0_hasRing_75 (by decide) ⟨g13.1, g13.2⟩ (fun c14 => ?_) (fun c14 => ?_)
    · have hM := xit hM c14
      obtain rfl := Option.some.inj hM
      refine xj_loc C [0, 1, 2] (L1 := [(0, .ref (ad 35)), (1, .int (xi p1)), (2, .int (xi p2))]) rfl ?_
      exact K
    · have hM := xif hM c14
      refine xj_aload_n C 0 dX0_hasRing_78 rfl rfl ?_
      refine xj_iload_n C 3 dX0_hasRing_79 rfl rfl ?_
      obtain ⟨r15, hRr15, hM⟩ := xbd hM
      refine xj_callV C [.int (xi v3)] [] 1 (c_X0_orderIfReady hRr15) gX0_hasRing_X0_orderIfReady rfl ⟨rfl, rfl⟩ hv_X0_orderIfReady ⟨Nat.le_of_ble_eq_true rfl, Nat.le_of_ble_eq_true rfl⟩ 35 (eX_35 ad k _) rfl rfl (Nat.le_of_ble_eq_true rfl) dX0_hasRing_80 ?_
      refine xj_iinc C 3 (L1 := [(3, .int (xi (v3 + 1))), (0, .ref (ad 35)), (1, .int (xi p1)), (2, .int (xi p2))]) dX0_hasRing_83 rfl (by decide) rfl ?_
      refine xj_goto C (tgt := 70) dX0_hasRing_86 (by decide) ?_
      refine xj_loc C [1, 2, 3, 0] (L1 := [(0, .ref (ad 35)), (1, .int (xi p1)), (2, .int (xi p2)), (3, .int (xi (v3 + 1)))]) rfl ?_
      exact ih _ _ _ hM K
set_option maxRecDepth 100000 in
set_option maxHeartbeats 4000000 in
theorem j_X0_hasRing_L54 {l : Launch} {D : va_G} {k : Nat → ClassId} {ad : Nat → Nat} {o : xO} {X : xX} (C : xC D k o X cX0_hasRing 4 RX0 wsX0_hasRing (some .boolean) rmX0_hasRing) (p1 : Int) : ∀ (n : Nat) (v2 : Int) (S : xS) (r : xS), m_X0_hasRing_L54 p1 n v2 S = some r → (xJ l D k o X 4 95 [(0, .ref (ad 35)), (1, .int (xi p1))] [] (wX ad k r)) → xJ l D k o X 4 54 [(0, .ref (ad 35)), (1, .int (xi p1)), (2, .int (xi v2))] [] (wX ad k S) := by
  intro n
  induction n with
  | zero =>
    intro v2 S r hM
    cases hM
  | succ n ih =>
    intro v2 S r hM K
    unfold m_X0_hasRing_L54 at hM
    refine xj_iload_n C 2 dX0_hasRing_54 rfl rfl ?_
    refine xj_bipush C (n := 10) (by decide) dX0_hasRing_55 ?_
    obtain ⟨g9, hM⟩ := xck_some hM
    refine xj_icmp_ge C (tgt := 95) dX0_hasRing_57 (by decide) ⟨g9, (by decide)⟩ (fun c10 => ?_) (fun c10 => ?_)
    · have hM := xit hM c10
      obtain rfl := Option.some.inj hM
      refine xj_loc C [0, 1] (L1 := [(0, .ref (ad 35)), (1, .int (xi p1))]) rfl ?_
      exact K
    · have hM := xif hM c10
      refine xj_aload_n C 0 dX0_hasRing_60 rfl rfl ?_
      refine xj_get C (v := .int (xi (S 51 0))) (fun _ h => List.mem_cons_of_mem _ (List.mem_append_right _ h)) 35 (eX_35 ad k S) rfl 10 (by decide) (List.mem_of_getElem? (i := 1) rfl) (fun _ _ h => h) rfl dX0_hasRing_61 ?_
      refine xj_iload_n C 1 dX0_hasRing_64 rfl rfl ?_
      obtain ⟨g11, hM⟩ := xck_some hM
      refine xj_icmp_ge C (tgt := 95) dX0_hasRing_65 (by decide) ⟨g11.1, g11.2⟩ (fun c12 => ?_) (fun c12 => ?_)
      · have hM := xit hM c12
        obtain rfl := Option.some.inj hM
        refine xj_loc C [0, 1] (L1 := [(0, .ref (ad 35)), (1, .int (xi p1))]) rfl ?_
        exact K
      · have hM := xif hM c12
        refine xj_iconst C dX0_hasRing_68 ?_
        refine xj_istore_n C (L1 := [(3, .int (xi 0)), (0, .ref (ad 35)), (1, .int (xi p1)), (2, .int (xi v2))]) dX0_hasRing_69 rfl (by decide) rfl ?_
        obtain ⟨r16, hLr16, hM⟩ := xbd hM
        refine xj_loc C [1, 2, 3, 0] (L1 := [(0, .ref (ad 35)), (1, .int (xi p1)), (2, .int (xi v2)), (3, .int (xi 0))]) rfl ?_
        refine j_X0_hasRing_L70 C p1 v2 _ _ _ _ hLr16 ?_
        refine xj_iinc C 2 (L1 := [(2, .int (xi (v2 + 1))), (0, .ref (ad 35)), (1, .int (xi p1))]) dX0_hasRing_89 rfl (by decide) rfl ?_
        refine xj_goto C (tgt := 54) dX0_hasRing_92 (by decide) ?_
        refine xj_loc C [1, 2, 0] (L1 := [(0, .ref (ad 35)), (1, .int (xi p1)), (2, .int (xi (v2 + 1)))]) rfl ?_
        exact ih _ _ _ hM K
set_option maxRecDepth 100000 in
set_option maxHeartbeats 4000000 in
theorem c_X0_hasRing {l : Launch} {D : va_G} {k : Nat → ClassId} {ad : Nat → Nat} {S : xS} {res : Int × xS} (hM : m_X0_hasRing S = some res) : xM l yX0_hasRing wsX0_hasRing rmX0_hasRing D k [.ref (ad 35)] (wX ad k S) (some (.int (xi res.1))) (wX ad k res.2) := by
  refine xM_of (ret := (some .boolean)) (by decide) rfl (Nat.le_of_ble_eq_true rfl) (fun X C => ?_)
  have C : xC D k (xo X D k (some (.int (xi res.1))) (wX ad k res.2)) X cX0_hasRing 4 RX0 wsX0_hasRing (some .boolean) rmX0_hasRing := C
  show xJ l D k (xo X D k (some (.int (xi res.1))) (wX ad k res.2)) X 4 0 [(0, .ref (ad 35))] [] (wX ad k S)
  unfold m_X0_hasRing at hM
  refine xj_aload_n C 0 dX0_hasRing_0 rfl rfl ?_
  refine xj_iconst C dX0_hasRing_1 ?_
  refine xj_put C (fun _ h => List.mem_cons_of_mem _ (List.mem_append_right _ h)) tyX0 tyX0_ok nmX0 35 (eX_35 ad k S) rfl 10 (by decide) (List.mem_of_getElem? (i := 1) rfl) (fun _ _ h => h) rfl (tyX0_ok 10 (by decide)) (Nat.le_of_ble_eq_true rfl) (sX_51 ad k S 0) dX0_hasRing_2 ?_
  refine xj_iconst C dX0_hasRing_5 ?_
  refine xj_istore_n C (L1 := [(1, .int (xi 0)), (0, .ref (ad 35))]) dX0_hasRing_6 rfl (by decide) rfl ?_
  refine xj_iconst C dX0_hasRing_7 ?_
  refine xj_istore_n C (L1 := [(2, .int (xi 0)), (1, .int (xi 0)), (0, .ref (ad 35))]) dX0_hasRing_8 rfl (by decide) rfl ?_
  obtain ⟨r8, hLr8, hM⟩ := xbd hM
  refine xj_loc C [2, 1, 0] (L1 := [(0, .ref (ad 35)), (1, .int (xi 0)), (2, .int (xi 0))]) rfl ?_
  refine j_X0_hasRing_L9 C _ _ _ _ _ hLr8 ?_
  refine xj_iconst C dX0_hasRing_52 ?_
  refine xj_istore_n C (L1 := [(2, .int (xi 0)), (0, .ref (ad 35)), (1, .int (xi r8.1))]) dX0_hasRing_53 rfl (by decide) rfl ?_
  obtain ⟨r17, hLr17, hM⟩ := xbd hM
  refine xj_loc C [1, 2, 0] (L1 := [(0, .ref (ad 35)), (1, .int (xi r8.1)), (2, .int (xi 0))]) rfl ?_
  refine j_X0_hasRing_L54 C r8.1 _ _ _ _ hLr17 ?_
  refine xj_aload_n C 0 dX0_hasRing_95 rfl rfl ?_
  refine xj_get C (v := .int (xi (r17 51 0))) (fun _ h => List.mem_cons_of_mem _ (List.mem_append_right _ h)) 35 (eX_35 ad k r17) rfl 10 (by decide) (List.mem_of_getElem? (i := 1) rfl) (fun _ _ h => h) rfl dX0_hasRing_96 ?_
  refine xj_iload_n C 1 dX0_hasRing_99 rfl rfl ?_
  obtain ⟨g18, hM⟩ := xck_some hM
  refine xj_icmp_ge C (tgt := 107) dX0_hasRing_100 (by decide) ⟨g18.1, g18.2⟩ (fun c19 => ?_) (fun c19 => ?_)
  · have hM := xit hM c19
    refine xj_iconst C dX0_hasRing_107 ?_
    obtain rfl := Option.some.inj hM
    exact xj_zret (Or.inl rfl) C rfl dX0_hasRing_108
  · have hM := xif hM c19
    refine xj_iconst C dX0_hasRing_103 ?_
    refine xj_goto C (tgt := 108) dX0_hasRing_104 (by decide) ?_
    obtain rfl := Option.some.inj hM
    exact xj_zret (Or.inr rfl) C rfl dX0_hasRing_108
def rmX0_valueAt : Room := { frames := 0, cells := 0, slots := 0, locals := 0 }
theorem hv_X0_valueAt : yX0_valueAt.cls = RX0 ∧ yX0_valueAt.cls ≠ "java/lang/invoke/MethodHandle" ∧ yX0_valueAt.cls ≠ "java/lang/invoke/VarHandle" ∧ (parseMethodDescriptor yX0_valueAt.desc).map (fun d => d.parameters.length) = some 1 := by decide +kernel
def m_X0_valueAt (p1 : Int) (S : xS) : Option (Int) := xck (0 ≤ p1 ∧ p1 < 34) (xck (xr (S 8 p1)) (if (S 8 p1) < 0 then some 0 else (if (S 8 p1) < 14 then xck (0 ≤ (S 8 p1) ∧ (S 8 p1) < 14) (some (S 9 (S 8 p1))) else some 0)))
set_option maxRecDepth 100000 in
set_option maxHeartbeats 4000000 in
theorem c_X0_valueAt {l : Launch} {D : va_G} {k : Nat → ClassId} {ad : Nat → Nat} {S : xS} {p1 : Int} {res : Int} (hM : m_X0_valueAt p1 S = some res) : xM l yX0_valueAt wsX0_valueAt rmX0_valueAt D k [.ref (ad 35), .int (xi p1)] (wX ad k S) (some (.int (xi res))) (wX ad k S) := by
  refine xM_of (ret := (some .int)) (by decide) rfl (Nat.le_of_ble_eq_true rfl) (fun X C => ?_)
  have C : xC D k (xo X D k (some (.int (xi res))) (wX ad k S)) X cX0_valueAt 3 RX0 wsX0_valueAt (some .int) rmX0_valueAt := C
  show xJ l D k (xo X D k (some (.int (xi res))) (wX ad k S)) X 3 0 [(0, .ref (ad 35)), (1, .int (xi p1))] [] (wX ad k S)
  unfold m_X0_valueAt at hM
  refine xj_aload_n C 0 dX0_valueAt_0 rfl rfl ?_
  refine xj_get C (fun _ h => List.mem_cons_of_mem _ (List.mem_append_right _ h)) 35 (eX_35 ad k S) rfl 4 (by decide) (List.mem_of_getElem? (i := 1) rfl) (fun _ _ h => h) rfl dX0_valueAt_1 ?_
  refine xj_iload_n C 1 dX0_valueAt_4 rfl rfl ?_
  obtain ⟨g1, hM⟩ := xck_some hM
  refine xj_iald C 8 S 8 (eX_8 ad k S) (Nat.le_of_ble_eq_true rfl) g1 dX0_valueAt_5 ?_
  refine xj_istore_n C (L1 := [(2, .int (xi (S 8 p1))), (0, .ref (ad 35)), (1, .int (xi p1))]) dX0_valueAt_6 rfl (by decide) rfl ?_
  refine xj_iload_n C 0 dX0_valueAt_7 rfl rfl ?_
  obtain ⟨g2, hM⟩ := xck_some hM
  refine xj_if_lt C (tgt := 17) dX0_valueAt_8 (by decide) g2 (fun c3 => ?_) (fun c3 => ?_)
  · have hM := xit hM c3
    refine xj_iconst C dX0_valueAt_17 ?_
    refine xj_goto C (tgt := 27) dX0_valueAt_18 (by decide) ?_
    obtain rfl := Option.some.inj hM
    exact xj_iret C rfl dX0_valueAt_27
  · have hM := xif hM c3
    refine xj_iload_n C 0 dX0_valueAt_11 rfl rfl ?_
    refine xj_bipush C (n := 14) (by decide) dX0_valueAt_12 ?_
    refine xj_icmp_lt C (tgt := 21) dX0_valueAt_14 (by decide) ⟨g2, (by decide)⟩ (fun c4 => ?_) (fun c4 => ?_)
    · have hM := xit hM c4
      refine xj_aload_n C 1 dX0_valueAt_21 rfl rfl ?_
      refine xj_get C (fun _ h => List.mem_cons_of_mem _ (List.mem_append_right _ h)) 35 (eX_35 ad k S) rfl 5 (by decide) (List.mem_of_getElem? (i := 2) rfl) (fun _ _ h => h) rfl dX0_valueAt_22 ?_
      refine xj_iload_n C 0 dX0_valueAt_25 rfl rfl ?_
      obtain ⟨g5, hM⟩ := xck_some hM
      refine xj_iald C 9 S 9 (eX_9 ad k S) (Nat.le_of_ble_eq_true rfl) g5 dX0_valueAt_26 ?_
      obtain rfl := Option.some.inj hM
      exact xj_iret C rfl dX0_valueAt_27
    · have hM := xif hM c4
      refine xj_iconst C dX0_valueAt_17 ?_
      refine xj_goto C (tgt := 27) dX0_valueAt_18 (by decide) ?_
      obtain rfl := Option.some.inj hM
      exact xj_iret C rfl dX0_valueAt_27
def rmX0_tableGives : Room := { frames := 1, cells := 0, slots := 0, locals := 22 }
theorem hv_X0_tableGives : yX0_tableGives.cls = RX0 ∧ yX0_tableGives.cls ≠ "java/lang/invoke/MethodHandle" ∧ yX0_tableGives.cls ≠ "java/lang/invoke/VarHandle" ∧ (parseMethodDescriptor yX0_tableGives.desc).map (fun d => d.parameters.length) = some 1 := by decide +kernel
def m_X0_tableGives_L4 (p1 : Int) (S : xS) : Nat → Int → Int → Option (Int)
  | 0, _, _ => none
  | n + 1, v2, v3 => xck (xr v3) (if 3 ≤ v3 then some v2 else (m_X0_valueAt ((p1 * 3) + v3) S).bind (fun r3 => m_X0_tableGives_L4 p1 S n (xb_ior v2 (xb_ishl r3 v3)) (v3 + 1)))
def m_X0_tableGives (p1 : Int) (S : xS) : Option (Int) := (m_X0_tableGives_L4 p1 S 2000 0 0).bind (fun r4 => xck (0 ≤ p1 ∧ p1 < 10) (some (xb_iand (xb_ishr (S 4 p1) r4) 1)))
set_option maxRecDepth 100000 in
set_option maxHeartbeats 4000000 in
theorem j_X0_tableGives_L4 {l : Launch} {D : va_G} {k : Nat → ClassId} {ad : Nat → Nat} {o : xO} {X : xX} (C : xC D k o X cX0_tableGives 4 RX0 wsX0_tableGives (some .int) rmX0_tableGives) (p1 : Int) (S : xS) : ∀ (n : Nat) (v2 : Int) (v3 : Int) (r : Int), m_X0_tableGives_L4 p1 S n v2 v3 = some r → (xJ l D k o X 4 29 [(0, .ref (ad 35)), (1, .int (xi p1)), (2, .int (xi r))] [] (wX ad k S)) → xJ l D k o X 4 4 [(0, .ref (ad 35)), (1, .int (xi p1)), (2, .int (xi v2)), (3, .int (xi v3))] [] (wX ad k S) := by
  intro n
  induction n with
  | zero =>
    intro v2 v3 r hM
    cases hM
  | succ n ih =>
    intro v2 v3 r hM K
    unfold m_X0_tableGives_L4 at hM
    refine xj_iload_n C 3 dX0_tableGives_4 rfl rfl ?_
    refine xj_iconst C dX0_tableGives_5 ?_
    obtain ⟨g1, hM⟩ := xck_some hM
    refine xj_icmp_ge C (tgt := 29) dX0_tableGives_6 (by decide) ⟨g1, (by decide)⟩ (fun c2 => ?_) (fun c2 => ?_)
    · have hM := xit hM c2
      obtain rfl := Option.some.inj hM
      refine xj_loc C [0, 1, 2] (L1 := [(0, .ref (ad 35)), (1, .int (xi p1)), (2, .int (xi v2))]) rfl ?_
      exact K
    · have hM := xif hM c2
      refine xj_iload_n C 2 dX0_tableGives_9 rfl rfl ?_
      refine xj_aload_n C 0 dX0_tableGives_10 rfl rfl ?_
      refine xj_iload_n C 1 dX0_tableGives_11 rfl rfl ?_
      refine xj_iconst C dX0_tableGives_12 ?_
      refine xj_imul C dX0_tableGives_13 ?_
      refine xj_iload_n C 3 dX0_tableGives_14 rfl rfl ?_
      refine xj_iadd C dX0_tableGives_15 ?_
      obtain ⟨r3, hRr3, hM⟩ := xbd hM
      refine xj_callV C [.int (xi ((p1 * 3) + v3))] [.int (xi v2)] 1 (c_X0_valueAt hRr3) gX0_tableGives_X0_valueAt rfl ⟨rfl, rfl⟩ hv_X0_valueAt ⟨Nat.le_of_ble_eq_true rfl, Nat.le_of_ble_eq_true rfl⟩ 35 (eX_35 ad k _) rfl rfl (Nat.le_of_ble_eq_true rfl) dX0_tableGives_16 ?_
      refine xj_iload_n C 3 dX0_tableGives_19 rfl rfl ?_
      refine xj_ishl C dX0_tableGives_20 ?_
      refine xj_ior C dX0_tableGives_21 ?_
      refine xj_istore_n C (L1 := [(2, .int (xi (xb_ior v2 (xb_ishl r3 v3)))), (0, .ref (ad 35)), (1, .int (xi p1)), (3, .int (xi v3))]) dX0_tableGives_22 rfl (by decide) rfl ?_
      refine xj_iinc C 3 (L1 := [(3, .int (xi (v3 + 1))), (2, .int (xi (xb_ior v2 (xb_ishl r3 v3)))), (0, .ref (ad 35)), (1, .int (xi p1))]) dX0_tableGives_23 rfl (by decide) rfl ?_
      refine xj_goto C (tgt := 4) dX0_tableGives_26 (by decide) ?_
      refine xj_loc C [2, 3, 1, 0] (L1 := [(0, .ref (ad 35)), (1, .int (xi p1)), (2, .int (xi (xb_ior v2 (xb_ishl r3 v3)))), (3, .int (xi (v3 + 1)))]) rfl ?_
      exact ih _ _ _ hM K
set_option maxRecDepth 100000 in
set_option maxHeartbeats 4000000 in
theorem c_X0_tableGives {l : Launch} {D : va_G} {k : Nat → ClassId} {ad : Nat → Nat} {S : xS} {p1 : Int} {res : Int} (hM : m_X0_tableGives p1 S = some res) : xM l yX0_tableGives wsX0_tableGives rmX0_tableGives D k [.ref (ad 35), .int (xi p1)] (wX ad k S) (some (.int (xi res))) (wX ad k S) := by
  refine xM_of (ret := (some .int)) (by decide) rfl (Nat.le_of_ble_eq_true rfl) (fun X C => ?_)
  have C : xC D k (xo X D k (some (.int (xi res))) (wX ad k S)) X cX0_tableGives 4 RX0 wsX0_tableGives (some .int) rmX0_tableGives := C
  show xJ l D k (xo X D k (some (.int (xi res))) (wX ad k S)) X 4 0 [(0, .ref (ad 35)), (1, .int (xi p1))] [] (wX ad k S)
  unfold m_X0_tableGives at hM
  refine xj_iconst C dX0_tableGives_0 ?_
  refine xj_istore_n C (L1 := [(2, .int (xi 0)), (0, .ref (ad 35)), (1, .int (xi p1))]) dX0_tableGives_1 rfl (by decide) rfl ?_
  refine xj_iconst C dX0_tableGives_2 ?_
  refine xj_istore_n C (L1 := [(3, .int (xi 0)), (2, .int (xi 0)), (0, .ref (ad 35)), (1, .int (xi p1))]) dX0_tableGives_3 rfl (by decide) rfl ?_
  obtain ⟨r4, hLr4, hM⟩ := xbd hM
  refine xj_loc C [2, 3, 1, 0] (L1 := [(0, .ref (ad 35)), (1, .int (xi p1)), (2, .int (xi 0)), (3, .int (xi 0))]) rfl ?_
  refine j_X0_tableGives_L4 C p1 S _ _ _ _ hLr4 ?_
  refine xj_aload_n C 0 dX0_tableGives_29 rfl rfl ?_
  refine xj_get C (fun _ h => List.mem_cons_of_mem _ (List.mem_append_right _ h)) 35 (eX_35 ad k S) rfl 0 (by decide) (List.mem_of_getElem? (i := 1) rfl) (fun _ _ h => h) rfl dX0_tableGives_30 ?_
  refine xj_iload_n C 1 dX0_tableGives_33 rfl rfl ?_
  obtain ⟨g5, hM⟩ := xck_some hM
  refine xj_iald C 4 S 4 (eX_4 ad k S) (Nat.le_of_ble_eq_true rfl) g5 dX0_tableGives_34 ?_
  refine xj_iload_n C 2 dX0_tableGives_35 rfl rfl ?_
  refine xj_ishr C dX0_tableGives_36 ?_
  refine xj_iconst C dX0_tableGives_37 ?_
  refine xj_iand C dX0_tableGives_38 ?_
  obtain rfl := Option.some.inj hM
  exact xj_iret C rfl dX0_tableGives_39
def rmX0_stepRegisters : Room := { frames := 2, cells := 0, slots := 0, locals := 48 }
theorem hv_X0_stepRegisters : yX0_stepRegisters.cls = RX0 ∧ yX0_stepRegisters.cls ≠ "java/lang/invoke/MethodHandle" ∧ yX0_stepRegisters.cls ≠ "java/lang/invoke/VarHandle" ∧ (parseMethodDescriptor yX0_stepRegisters.desc).map (fun d => d.parameters.length) = some 0 := by decide +kernel
def m_X0_stepRegisters_L2 : Nat → Int → xS → Option (xS)
  | 0, _, _ => none
  | n + 1, v1, S => xck (xr v1 ∧ xr (S 50 0)) (if (S 50 0) ≤ v1 then some S else xck (0 ≤ v1 ∧ v1 < 10) ((xck (xr (S 5 v1)) (if (S 5 v1) = 0 then xck (0 ≤ v1 ∧ v1 < 14) (some (S 9 v1)) else (m_X0_tableGives v1 S).bind (fun r8 => some r8))).bind (fun r4 => m_X0_stepRegisters_L2 n (v1 + 1) (xup S 10 v1 r4))))
def m_X0_stepRegisters (S : xS) : Option (xS) := (m_X0_stepRegisters_L2 2000 0 S).bind (fun r9 => xck (0 ≤ (r9 50 0) ∧ (r9 50 0) ≤ 10 ∧ (r9 50 0) ≤ 14) (some (xcp r9 10 9 (r9 50 0))))
set_option maxRecDepth 100000 in
set_option maxHeartbeats 4000000 in
theorem j_X0_stepRegisters_L2 {l : Launch} {D : va_G} {k : Nat → ClassId} {ad : Nat → Nat} {o : xO} {X : xX} (C : xC D k o X cX0_stepRegisters 2 RX0 wsX0_stepRegisters none rmX0_stepRegisters) : ∀ (n : Nat) (v1 : Int) (S : xS) (r : xS), m_X0_stepRegisters_L2 n v1 S = some r → (xJ l D k o X 2 45 [(0, .ref (ad 35))] [] (wX ad k r)) → xJ l D k o X 2 2 [(0, .ref (ad 35)), (1, .int (xi v1))] [] (wX ad k S) := by
  intro n
  induction n with
  | zero =>
    intro v1 S r hM
    cases hM
  | succ n ih =>
    intro v1 S r hM K
    unfold m_X0_stepRegisters_L2 at hM
    refine xj_iload_n C 1 dX0_stepRegisters_2 rfl rfl ?_
    refine xj_aload_n C 0 dX0_stepRegisters_3 rfl rfl ?_
    refine xj_get C (v := .int (xi (S 50 0))) (fun _ h => List.mem_cons_of_mem _ (List.mem_append_right _ h)) 35 (eX_35 ad k S) rfl 9 (by decide) (List.mem_of_getElem? (i := 1) rfl) (fun _ _ h => h) rfl dX0_stepRegisters_4 ?_
    obtain ⟨g1, hM⟩ := xck_some hM
    refine xj_icmp_ge C (tgt := 45) dX0_stepRegisters_7 (by decide) ⟨g1.1, g1.2⟩ (fun c2 => ?_) (fun c2 => ?_)
    · have hM := xit hM c2
      obtain rfl := Option.some.inj hM
      refine xj_loc C [0] (L1 := [(0, .ref (ad 35))]) rfl ?_
      exact K
    · have hM := xif hM c2
      refine xj_aload_n C 0 dX0_stepRegisters_10 rfl rfl ?_
      refine xj_get C (fun _ h => List.mem_cons_of_mem _ (List.mem_append_right _ h)) 35 (eX_35 ad k S) rfl 6 (by decide) (List.mem_of_getElem? (i := 2) rfl) (fun _ _ h => h) rfl dX0_stepRegisters_11 ?_
      refine xj_iload_n C 1 dX0_stepRegisters_14 rfl rfl ?_
      refine xj_aload_n C 0 dX0_stepRegisters_15 rfl rfl ?_
      refine xj_get C (fun _ h => List.mem_cons_of_mem _ (List.mem_append_right _ h)) 35 (eX_35 ad k S) rfl 1 (by decide) (List.mem_of_getElem? (i := 3) rfl) (fun _ _ h => h) rfl dX0_stepRegisters_16 ?_
      refine xj_iload_n C 1 dX0_stepRegisters_19 rfl rfl ?_
      obtain ⟨g3, hM⟩ := xck_some hM
      refine xj_zald C 5 S 5 (eX_5 ad k S) (Nat.le_of_ble_eq_true rfl) g3 dX0_stepRegisters_20 ?_
      obtain ⟨r4, hRr4, hM⟩ := xbd hM
      have Kr4 : xJ l D k o X 2 38 [(0, .ref (ad 35)), (1, .int (xi v1))] [.int (xi r4), .int (xi v1), .ref (ad 10)] (wX ad k S) := by
        refine xj_iast C 10 S 10 (eX_10 ad k S) (Nat.le_of_ble_eq_true rfl) g3 (sX_10 ad k S v1 r4) dX0_stepRegisters_38 ?_
        refine xj_iinc C 1 (L1 := [(1, .int (xi (v1 + 1))), (0, .ref (ad 35))]) dX0_stepRegisters_39 rfl (by decide) rfl ?_
        refine xj_goto C (tgt := 2) dX0_stepRegisters_42 (by decide) ?_
        refine xj_loc C [1, 0] (L1 := [(0, .ref (ad 35)), (1, .int (xi (v1 + 1)))]) rfl ?_
        exact ih _ _ _ hM K
      clear hM
      have hM := hRr4
      obtain ⟨g5, hM⟩ := xck_some hM
      refine xj_if_eq C (tgt := 32) dX0_stepRegisters_21 (by decide) g5 (fun c6 => ?_) (fun c6 => ?_)
      · have hM := xit hM c6
        refine xj_aload_n C 0 dX0_stepRegisters_32 rfl rfl ?_
        refine xj_get C (fun _ h => List.mem_cons_of_mem _ (List.mem_append_right _ h)) 35 (eX_35 ad k S) rfl 5 (by decide) (List.mem_of_getElem? (i := 4) rfl) (fun _ _ h => h) rfl dX0_stepRegisters_33 ?_
        refine xj_iload_n C 1 dX0_stepRegisters_36 rfl rfl ?_
        obtain ⟨g7, hM⟩ := xck_some hM
        refine xj_iald C 9 S 9 (eX_9 ad k S) (Nat.le_of_ble_eq_true rfl) g7 dX0_stepRegisters_37 ?_
        obtain rfl := Option.some.inj hM
        exact Kr4
      · have hM := xif hM c6
        refine xj_aload_n C 0 dX0_stepRegisters_24 rfl rfl ?_
        refine xj_iload_n C 1 dX0_stepRegisters_25 rfl rfl ?_
        obtain ⟨r8, hRr8, hM⟩ := xbd hM
        refine xj_callV C [.int (xi v1)] [.int (xi v1), .ref (ad 10)] 1 (c_X0_tableGives hRr8) gX0_stepRegisters_X0_tableGives rfl ⟨rfl, rfl⟩ hv_X0_tableGives ⟨Nat.le_of_ble_eq_true rfl, Nat.le_of_ble_eq_true rfl⟩ 35 (eX_35 ad k _) rfl rfl (Nat.le_of_ble_eq_true rfl) dX0_stepRegisters_26 ?_
        refine xj_goto C (tgt := 38) dX0_stepRegisters_29 (by decide) ?_
        obtain rfl := Option.some.inj hM
        exact Kr4
set_option maxRecDepth 100000 in
set_option maxHeartbeats 4000000 in
theorem c_X0_stepRegisters {l : Launch} {D : va_G} {k : Nat → ClassId} {ad : Nat → Nat} {S : xS} {res : xS} (hM : m_X0_stepRegisters S = some res) : xM l yX0_stepRegisters wsX0_stepRegisters rmX0_stepRegisters D k [.ref (ad 35)] (wX ad k S) none (wX ad k res) := by
  refine xM_of (ret := none) (by decide) rfl (Nat.le_of_ble_eq_true rfl) (fun X C => ?_)
  have C : xC D k (xo X D k none (wX ad k res)) X cX0_stepRegisters 2 RX0 wsX0_stepRegisters none rmX0_stepRegisters := C
  show xJ l D k (xo X D k none (wX ad k res)) X 2 0 [(0, .ref (ad 35))] [] (wX ad k S)
  unfold m_X0_stepRegisters at hM
  refine xj_iconst C dX0_stepRegisters_0 ?_
  refine xj_istore_n C (L1 := [(1, .int (xi 0)), (0, .ref (ad 35))]) dX0_stepRegisters_1 rfl (by decide) rfl ?_
  obtain ⟨r9, hLr9, hM⟩ := xbd hM
  refine xj_loc C [1, 0] (L1 := [(0, .ref (ad 35)), (1, .int (xi 0))]) rfl ?_
  refine j_X0_stepRegisters_L2 C _ _ _ _ hLr9 ?_
  refine xj_aload_n C 0 dX0_stepRegisters_45 rfl rfl ?_
  refine xj_get C (fun _ h => List.mem_cons_of_mem _ (List.mem_append_right _ h)) 35 (eX_35 ad k r9) rfl 6 (by decide) (List.mem_of_getElem? (i := 2) rfl) (fun _ _ h => h) rfl dX0_stepRegisters_46 ?_
  refine xj_iconst C dX0_stepRegisters_49 ?_
  refine xj_aload_n C 0 dX0_stepRegisters_50 rfl rfl ?_
  refine xj_get C (fun _ h => List.mem_cons_of_mem _ (List.mem_append_right _ h)) 35 (eX_35 ad k r9) rfl 5 (by decide) (List.mem_of_getElem? (i := 4) rfl) (fun _ _ h => h) rfl dX0_stepRegisters_51 ?_
  refine xj_iconst C dX0_stepRegisters_54 ?_
  refine xj_aload_n C 0 dX0_stepRegisters_55 rfl rfl ?_
  refine xj_get C (v := .int (xi (r9 50 0))) (fun _ h => List.mem_cons_of_mem _ (List.mem_append_right _ h)) 35 (eX_35 ad k r9) rfl 9 (by decide) (List.mem_of_getElem? (i := 1) rfl) (fun _ _ h => h) rfl dX0_stepRegisters_56 ?_
  obtain ⟨g10, hM⟩ := xck_some hM
  refine xj_copy C 10 9 (eX_10 ad k r9) (eX_9 ad k r9) g10 (Nat.le_of_ble_eq_true rfl) (kX_10_9 ad k r9 (r9 50 0) g10.1) (List.mem_of_getElem? (i := 5) rfl) (List.mem_of_getElem? (i := 6) rfl) (List.mem_of_getElem? (i := 7) rfl) (List.mem_of_getElem? (i := 8) rfl) (Nat.le_of_ble_eq_true rfl) (Nat.le_of_ble_eq_true rfl) dX0_stepRegisters_59 ?_
  obtain rfl := Option.some.inj hM
  exact xj_vret C rfl dX0_stepRegisters_62
def rmX0_step : Room := { frames := 3, cells := 0, slots := 0, locals := 69 }
theorem hv_X0_step : yX0_step.cls = RX0 ∧ yX0_step.cls ≠ "java/lang/invoke/MethodHandle" ∧ yX0_step.cls ≠ "java/lang/invoke/VarHandle" ∧ (parseMethodDescriptor yX0_step.desc).map (fun d => d.parameters.length) = some 1 := by decide +kernel
def m_X0_step_L2 (p1 : Int) : Nat → Int → xS → Option (xS)
  | 0, _, _ => none
  | n + 1, v2, S => xck (xr v2) (if 4 ≤ v2 then some S else xck (0 ≤ (10 + v2) ∧ (10 + v2) < 14) (m_X0_step_L2 p1 n (v2 + 1) (xup S 9 (10 + v2) (xb_iand (xb_ishr p1 v2) 1))))
def m_X0_step_L29 : Nat → Int → xS → Option (xS)
  | 0, _, _ => none
  | n + 1, v2, S => xck (xr v2 ∧ xr (S 51 0)) (if (S 51 0) ≤ v2 then some S else xck (0 ≤ v2 ∧ v2 < 10) ((m_X0_tableGives (S 11 v2) S).bind (fun r8 => xck (0 ≤ (S 11 v2) ∧ (S 11 v2) < 14) (m_X0_step_L29 n (v2 + 1) (xup S 9 (S 11 v2) r8)))))
def m_X0_step_L65 (S : xS) : Nat → Int → Int → Option (Int)
  | 0, _, _ => none
  | n + 1, v2, v3 => xck (xr v3) (if 4 ≤ v3 then some v2 else (m_X0_valueAt (30 + v3) S).bind (fun r13 => m_X0_step_L65 S n (xb_ior v2 (xb_ishl r13 v3)) (v3 + 1)))
def m_X0_step (p1 : Int) (S : xS) : Option (Int × xS) := (m_X0_step_L2 p1 2000 0 S).bind (fun r4 => (m_X0_step_L29 2000 0 r4).bind (fun r10 => (m_X0_step_L65 r10 2000 0 0).bind (fun r14 => (m_X0_stepRegisters r10).bind (fun r15 => some (r14, r15)))))
set_option maxRecDepth 100000 in
set_option maxHeartbeats 4000000 in
theorem j_X0_step_L2 {l : Launch} {D : va_G} {k : Nat → ClassId} {ad : Nat → Nat} {o : xO} {X : xX} (C : xC D k o X cX0_step 4 RX0 wsX0_step (some .int) rmX0_step) (p1 : Int) : ∀ (n : Nat) (v2 : Int) (S : xS) (r : xS), m_X0_step_L2 p1 n v2 S = some r → (xJ l D k o X 4 27 [(0, .ref (ad 35))] [] (wX ad k r)) → xJ l D k o X 4 2 [(0, .ref (ad 35)), (1, .int (xi p1)), (2, .int (xi v2))] [] (wX ad k S) := by
  intro n
  induction n with
  | zero =>
    intro v2 S r hM
    cases hM
  | succ n ih =>
    intro v2 S r hM K
    unfold m_X0_step_L2 at hM
    refine xj_iload_n C 2 dX0_step_2 rfl rfl ?_
    refine xj_iconst C dX0_step_3 ?_
    obtain ⟨g1, hM⟩ := xck_some hM
    refine xj_icmp_ge C (tgt := 27) dX0_step_4 (by decide) ⟨g1, (by decide)⟩ (fun c2 => ?_) (fun c2 => ?_)
    · have hM := xit hM c2
      obtain rfl := Option.some.inj hM
      refine xj_loc C [0] (L1 := [(0, .ref (ad 35))]) rfl ?_
      exact K
    · have hM := xif hM c2
      refine xj_aload_n C 0 dX0_step_7 rfl rfl ?_
      refine xj_get C (fun _ h => List.mem_cons_of_mem _ (List.mem_append_right _ h)) 35 (eX_35 ad k S) rfl 5 (by decide) (List.mem_of_getElem? (i := 1) rfl) (fun _ _ h => h) rfl dX0_step_8 ?_
      refine xj_bipush C (n := 10) (by decide) dX0_step_11 ?_
      refine xj_iload_n C 2 dX0_step_13 rfl rfl ?_
      refine xj_iadd C dX0_step_14 ?_
      refine xj_iload_n C 1 dX0_step_15 rfl rfl ?_
      refine xj_iload_n C 2 dX0_step_16 rfl rfl ?_
      refine xj_ishr C dX0_step_17 ?_
      refine xj_iconst C dX0_step_18 ?_
      refine xj_iand C dX0_step_19 ?_
      obtain ⟨g3, hM⟩ := xck_some hM
      refine xj_iast C 9 S 9 (eX_9 ad k S) (Nat.le_of_ble_eq_true rfl) g3 (sX_9 ad k S (10 + v2) (xb_iand (xb_ishr p1 v2) 1)) dX0_step_20 ?_
      refine xj_iinc C 2 (L1 := [(2, .int (xi (v2 + 1))), (0, .ref (ad 35)), (1, .int (xi p1))]) dX0_step_21 rfl (by decide) rfl ?_
      refine xj_goto C (tgt := 2) dX0_step_24 (by decide) ?_
      refine xj_loc C [1, 2, 0] (L1 := [(0, .ref (ad 35)), (1, .int (xi p1)), (2, .int (xi (v2 + 1)))]) rfl ?_
      exact ih _ _ _ hM K
set_option maxRecDepth 100000 in
set_option maxHeartbeats 4000000 in
theorem j_X0_step_L29 {l : Launch} {D : va_G} {k : Nat → ClassId} {ad : Nat → Nat} {o : xO} {X : xX} (C : xC D k o X cX0_step 4 RX0 wsX0_step (some .int) rmX0_step) : ∀ (n : Nat) (v2 : Int) (S : xS) (r : xS), m_X0_step_L29 n v2 S = some r → (xJ l D k o X 4 61 [(0, .ref (ad 35))] [] (wX ad k r)) → xJ l D k o X 4 29 [(0, .ref (ad 35)), (2, .int (xi v2))] [] (wX ad k S) := by
  intro n
  induction n with
  | zero =>
    intro v2 S r hM
    cases hM
  | succ n ih =>
    intro v2 S r hM K
    unfold m_X0_step_L29 at hM
    refine xj_iload_n C 1 dX0_step_29 rfl rfl ?_
    refine xj_aload_n C 0 dX0_step_30 rfl rfl ?_
    refine xj_get C (v := .int (xi (S 51 0))) (fun _ h => List.mem_cons_of_mem _ (List.mem_append_right _ h)) 35 (eX_35 ad k S) rfl 10 (by decide) (List.mem_of_getElem? (i := 2) rfl) (fun _ _ h => h) rfl dX0_step_31 ?_
    obtain ⟨g5, hM⟩ := xck_some hM
    refine xj_icmp_ge C (tgt := 61) dX0_step_34 (by decide) ⟨g5.1, g5.2⟩ (fun c6 => ?_) (fun c6 => ?_)
    · have hM := xit hM c6
      obtain rfl := Option.some.inj hM
      refine xj_loc C [0] (L1 := [(0, .ref (ad 35))]) rfl ?_
      exact K
    · have hM := xif hM c6
      refine xj_aload_n C 0 dX0_step_37 rfl rfl ?_
      refine xj_get C (fun _ h => List.mem_cons_of_mem _ (List.mem_append_right _ h)) 35 (eX_35 ad k S) rfl 7 (by decide) (List.mem_of_getElem? (i := 3) rfl) (fun _ _ h => h) rfl dX0_step_38 ?_
      refine xj_iload_n C 1 dX0_step_41 rfl rfl ?_
      obtain ⟨g7, hM⟩ := xck_some hM
      refine xj_iald C 11 S 11 (eX_11 ad k S) (Nat.le_of_ble_eq_true rfl) g7 dX0_step_42 ?_
      refine xj_istore_n C (L1 := [(3, .int (xi (S 11 v2))), (0, .ref (ad 35)), (2, .int (xi v2))]) dX0_step_43 rfl (by decide) rfl ?_
      refine xj_aload_n C 1 dX0_step_44 rfl rfl ?_
      refine xj_get C (fun _ h => List.mem_cons_of_mem _ (List.mem_append_right _ h)) 35 (eX_35 ad k S) rfl 5 (by decide) (List.mem_of_getElem? (i := 1) rfl) (fun _ _ h => h) rfl dX0_step_45 ?_
      refine xj_iload_n C 0 dX0_step_48 rfl rfl ?_
      refine xj_aload_n C 1 dX0_step_49 rfl rfl ?_
      refine xj_iload_n C 0 dX0_step_50 rfl rfl ?_
      obtain ⟨r8, hRr8, hM⟩ := xbd hM
      refine xj_callV C [.int (xi (S 11 v2))] [.int (xi (S 11 v2)), .ref (ad 9)] 1 (c_X0_tableGives hRr8) gX0_step_X0_tableGives rfl ⟨rfl, rfl⟩ hv_X0_tableGives ⟨Nat.le_of_ble_eq_true rfl, Nat.le_of_ble_eq_true rfl⟩ 35 (eX_35 ad k _) rfl rfl (Nat.le_of_ble_eq_true rfl) dX0_step_51 ?_
      obtain ⟨g9, hM⟩ := xck_some hM
      refine xj_iast C 9 S 9 (eX_9 ad k S) (Nat.le_of_ble_eq_true rfl) g9 (sX_9 ad k S (S 11 v2) r8) dX0_step_54 ?_
      refine xj_iinc C 2 (L1 := [(2, .int (xi (v2 + 1))), (3, .int (xi (S 11 v2))), (0, .ref (ad 35))]) dX0_step_55 rfl (by decide) rfl ?_
      refine xj_goto C (tgt := 29) dX0_step_58 (by decide) ?_
      refine xj_loc C [2, 0] (L1 := [(0, .ref (ad 35)), (2, .int (xi (v2 + 1)))]) rfl ?_
      exact ih _ _ _ hM K
set_option maxRecDepth 100000 in
set_option maxHeartbeats 4000000 in
theorem j_X0_step_L65 {l : Launch} {D : va_G} {k : Nat → ClassId} {ad : Nat → Nat} {o : xO} {X : xX} (C : xC D k o X cX0_step 4 RX0 wsX0_step (some .int) rmX0_step) (S : xS) : ∀ (n : Nat) (v2 : Int) (v3 : Int) (r : Int), m_X0_step_L65 S n v2 v3 = some r → (xJ l D k o X 4 89 [(0, .ref (ad 35)), (2, .int (xi r))] [] (wX ad k S)) → xJ l D k o X 4 65 [(0, .ref (ad 35)), (2, .int (xi v2)), (3, .int (xi v3))] [] (wX ad k S) := by
  intro n
  induction n with
  | zero =>
    intro v2 v3 r hM
    cases hM
  | succ n ih =>
    intro v2 v3 r hM K
    unfold m_X0_step_L65 at hM
    refine xj_iload_n C 2 dX0_step_65 rfl rfl ?_
    refine xj_iconst C dX0_step_66 ?_
    obtain ⟨g11, hM⟩ := xck_some hM
    refine xj_icmp_ge C (tgt := 89) dX0_step_67 (by decide) ⟨g11, (by decide)⟩ (fun c12 => ?_) (fun c12 => ?_)
    · have hM := xit hM c12
      obtain rfl := Option.some.inj hM
      refine xj_loc C [0, 1] (L1 := [(0, .ref (ad 35)), (2, .int (xi v2))]) rfl ?_
      exact K
    · have hM := xif hM c12
      refine xj_iload_n C 1 dX0_step_70 rfl rfl ?_
      refine xj_aload_n C 0 dX0_step_71 rfl rfl ?_
      refine xj_bipush C (n := 30) (by decide) dX0_step_72 ?_
      refine xj_iload_n C 2 dX0_step_74 rfl rfl ?_
      refine xj_iadd C dX0_step_75 ?_
      obtain ⟨r13, hRr13, hM⟩ := xbd hM
      refine xj_callV C [.int (xi (30 + v3))] [.int (xi v2)] 1 (c_X0_valueAt hRr13) gX0_step_X0_valueAt rfl ⟨rfl, rfl⟩ hv_X0_valueAt ⟨Nat.le_of_ble_eq_true rfl, Nat.le_of_ble_eq_true rfl⟩ 35 (eX_35 ad k _) rfl rfl (Nat.le_of_ble_eq_true rfl) dX0_step_76 ?_
      refine xj_iload_n C 2 dX0_step_79 rfl rfl ?_
      refine xj_ishl C dX0_step_80 ?_
      refine xj_ior C dX0_step_81 ?_
      refine xj_istore_n C (L1 := [(2, .int (xi (xb_ior v2 (xb_ishl r13 v3)))), (0, .ref (ad 35)), (3, .int (xi v3))]) dX0_step_82 rfl (by decide) rfl ?_
      refine xj_iinc C 2 (L1 := [(3, .int (xi (v3 + 1))), (2, .int (xi (xb_ior v2 (xb_ishl r13 v3)))), (0, .ref (ad 35))]) dX0_step_83 rfl (by decide) rfl ?_
      refine xj_goto C (tgt := 65) dX0_step_86 (by decide) ?_
      refine xj_loc C [2, 1, 0] (L1 := [(0, .ref (ad 35)), (2, .int (xi (xb_ior v2 (xb_ishl r13 v3)))), (3, .int (xi (v3 + 1)))]) rfl ?_
      exact ih _ _ _ hM K
set_option maxRecDepth 100000 in
set_option maxHeartbeats 4000000 in
theorem c_X0_step {l : Launch} {D : va_G} {k : Nat → ClassId} {ad : Nat → Nat} {S : xS} {p1 : Int} {res : Int × xS} (hM : m_X0_step p1 S = some res) : xM l yX0_step wsX0_step rmX0_step D k [.ref (ad 35), .int (xi p1)] (wX ad k S) (some (.int (xi res.1))) (wX ad k res.2) := by
  refine xM_of (ret := (some .int)) (by decide) rfl (Nat.le_of_ble_eq_true rfl) (fun X C => ?_)
  have C : xC D k (xo X D k (some (.int (xi res.1))) (wX ad k res.2)) X cX0_step 4 RX0 wsX0_step (some .int) rmX0_step := C
  show xJ l D k (xo X D k (some (.int (xi res.1))) (wX ad k res.2)) X 4 0 [(0, .ref (ad 35)), (1, .int (xi p1))] [] (wX ad k S)
  unfold m_X0_step at hM
  refine xj_iconst C dX0_step_0 ?_
  refine xj_istore_n C (L1 := [(2, .int (xi 0)), (0, .ref (ad 35)), (1, .int (xi p1))]) dX0_step_1 rfl (by decide) rfl ?_
  obtain ⟨r4, hLr4, hM⟩ := xbd hM
  refine xj_loc C [1, 2, 0] (L1 := [(0, .ref (ad 35)), (1, .int (xi p1)), (2, .int (xi 0))]) rfl ?_
  refine j_X0_step_L2 C p1 _ _ _ _ hLr4 ?_
  refine xj_iconst C dX0_step_27 ?_
  refine xj_istore_n C (L1 := [(2, .int (xi 0)), (0, .ref (ad 35))]) dX0_step_28 rfl (by decide) rfl ?_
  obtain ⟨r10, hLr10, hM⟩ := xbd hM
  refine xj_loc C [1, 0] (L1 := [(0, .ref (ad 35)), (2, .int (xi 0))]) rfl ?_
  refine j_X0_step_L29 C _ _ _ _ hLr10 ?_
  refine xj_iconst C dX0_step_61 ?_
  refine xj_istore_n C (L1 := [(2, .int (xi 0)), (0, .ref (ad 35))]) dX0_step_62 rfl (by decide) rfl ?_
  refine xj_iconst C dX0_step_63 ?_
  refine xj_istore_n C (L1 := [(3, .int (xi 0)), (2, .int (xi 0)), (0, .ref (ad 35))]) dX0_step_64 rfl (by decide) rfl ?_
  obtain ⟨r14, hLr14, hM⟩ := xbd hM
  refine xj_loc C [2, 1, 0] (L1 := [(0, .ref (ad 35)), (2, .int (xi 0)), (3, .int (xi 0))]) rfl ?_
  refine j_X0_step_L65 C r10 _ _ _ _ hLr14 ?_
  refine xj_aload_n C 0 dX0_step_89 rfl rfl ?_
  obtain ⟨r15, hRr15, hM⟩ := xbd hM
  refine xj_callV C [] [] 0 (c_X0_stepRegisters hRr15) gX0_step_X0_stepRegisters rfl ⟨rfl, rfl⟩ hv_X0_stepRegisters ⟨Nat.le_of_ble_eq_true rfl, Nat.le_of_ble_eq_true rfl⟩ 35 (eX_35 ad k _) rfl rfl (Nat.le_of_ble_eq_true rfl) dX0_step_90 ?_
  refine xj_iload_n C 1 dX0_step_93 rfl rfl ?_
  obtain rfl := Option.some.inj hM
  exact xj_iret C rfl dX0_step_94
def rmX0_restart : Room := { frames := 0, cells := 0, slots := 0, locals := 0 }
theorem hv_X0_restart : yX0_restart.cls = RX0 ∧ yX0_restart.cls ≠ "java/lang/invoke/MethodHandle" ∧ yX0_restart.cls ≠ "java/lang/invoke/VarHandle" ∧ (parseMethodDescriptor yX0_restart.desc).map (fun d => d.parameters.length) = some 0 := by decide +kernel
def m_X0_restart_L2 : Nat → Int → xS → Option (xS)
  | 0, _, _ => none
  | n + 1, v1, S => xck (xr v1 ∧ xr (S 50 0)) (if (S 50 0) ≤ v1 then some S else xck (0 ≤ v1 ∧ v1 < 10) ((xck (xr (S 5 v1)) (if (S 5 v1) = 0 then some S else xck (0 ≤ v1 ∧ v1 < 14) (some (xup S 9 v1 (S 6 v1))))).bind (fun r4 => m_X0_restart_L2 n (v1 + 1) r4)))
def m_X0_restart (S : xS) : Option (xS) := (m_X0_restart_L2 2000 0 S).bind (fun r8 => some r8)
set_option maxRecDepth 100000 in
set_option maxHeartbeats 4000000 in
theorem j_X0_restart_L2 {l : Launch} {D : va_G} {k : Nat → ClassId} {ad : Nat → Nat} {o : xO} {X : xX} (C : xC D k o X cX0_restart 2 RX0 wsX0_restart none rmX0_restart) : ∀ (n : Nat) (v1 : Int) (S : xS) (r : xS), m_X0_restart_L2 n v1 S = some r → (xJ l D k o X 2 37 [] [] (wX ad k r)) → xJ l D k o X 2 2 [(0, .ref (ad 35)), (1, .int (xi v1))] [] (wX ad k S) := by
  intro n
  induction n with
  | zero =>
    intro v1 S r hM
    cases hM
  | succ n ih =>
    intro v1 S r hM K
    unfold m_X0_restart_L2 at hM
    refine xj_iload_n C 1 dX0_restart_2 rfl rfl ?_
    refine xj_aload_n C 0 dX0_restart_3 rfl rfl ?_
    refine xj_get C (v := .int (xi (S 50 0))) (fun _ h => List.mem_cons_of_mem _ (List.mem_append_right _ h)) 35 (eX_35 ad k S) rfl 9 (by decide) (List.mem_of_getElem? (i := 1) rfl) (fun _ _ h => h) rfl dX0_restart_4 ?_
    obtain ⟨g1, hM⟩ := xck_some hM
    refine xj_icmp_ge C (tgt := 37) dX0_restart_7 (by decide) ⟨g1.1, g1.2⟩ (fun c2 => ?_) (fun c2 => ?_)
    · have hM := xit hM c2
      obtain rfl := Option.some.inj hM
      refine xj_loc C [] (L1 := []) rfl ?_
      exact K
    · have hM := xif hM c2
      refine xj_aload_n C 0 dX0_restart_10 rfl rfl ?_
      refine xj_get C (fun _ h => List.mem_cons_of_mem _ (List.mem_append_right _ h)) 35 (eX_35 ad k S) rfl 1 (by decide) (List.mem_of_getElem? (i := 2) rfl) (fun _ _ h => h) rfl dX0_restart_11 ?_
      refine xj_iload_n C 1 dX0_restart_14 rfl rfl ?_
      obtain ⟨g3, hM⟩ := xck_some hM
      refine xj_zald C 5 S 5 (eX_5 ad k S) (Nat.le_of_ble_eq_true rfl) g3 dX0_restart_15 ?_
      obtain ⟨r4, hRr4, hM⟩ := xbd hM
      have Kr4 : xJ l D k o X 2 31 [(0, .ref (ad 35)), (1, .int (xi v1))] [] (wX ad k r4) := by
        refine xj_iinc C 1 (L1 := [(1, .int (xi (v1 + 1))), (0, .ref (ad 35))]) dX0_restart_31 rfl (by decide) rfl ?_
        refine xj_goto C (tgt := 2) dX0_restart_34 (by decide) ?_
        refine xj_loc C [1, 0] (L1 := [(0, .ref (ad 35)), (1, .int (xi (v1 + 1)))]) rfl ?_
        exact ih _ _ _ hM K
      clear hM
      have hM := hRr4
      obtain ⟨g5, hM⟩ := xck_some hM
      refine xj_if_eq C (tgt := 31) dX0_restart_16 (by decide) g5 (fun c6 => ?_) (fun c6 => ?_)
      · have hM := xit hM c6
        obtain rfl := Option.some.inj hM
        exact Kr4
      · have hM := xif hM c6
        refine xj_aload_n C 0 dX0_restart_19 rfl rfl ?_
        refine xj_get C (fun _ h => List.mem_cons_of_mem _ (List.mem_append_right _ h)) 35 (eX_35 ad k S) rfl 5 (by decide) (List.mem_of_getElem? (i := 3) rfl) (fun _ _ h => h) rfl dX0_restart_20 ?_
        refine xj_iload_n C 1 dX0_restart_23 rfl rfl ?_
        refine xj_aload_n C 0 dX0_restart_24 rfl rfl ?_
        refine xj_get C (fun _ h => List.mem_cons_of_mem _ (List.mem_append_right _ h)) 35 (eX_35 ad k S) rfl 2 (by decide) (List.mem_of_getElem? (i := 4) rfl) (fun _ _ h => h) rfl dX0_restart_25 ?_
        refine xj_iload_n C 1 dX0_restart_28 rfl rfl ?_
        refine xj_iald C 6 S 6 (eX_6 ad k S) (Nat.le_of_ble_eq_true rfl) g3 dX0_restart_29 ?_
        obtain ⟨g7, hM⟩ := xck_some hM
        refine xj_iast C 9 S 9 (eX_9 ad k S) (Nat.le_of_ble_eq_true rfl) g7 (sX_9 ad k S v1 (S 6 v1)) dX0_restart_30 ?_
        obtain rfl := Option.some.inj hM
        exact Kr4
set_option maxRecDepth 100000 in
set_option maxHeartbeats 4000000 in
theorem c_X0_restart {l : Launch} {D : va_G} {k : Nat → ClassId} {ad : Nat → Nat} {S : xS} {res : xS} (hM : m_X0_restart S = some res) : xM l yX0_restart wsX0_restart rmX0_restart D k [.ref (ad 35)] (wX ad k S) none (wX ad k res) := by
  refine xM_of (ret := none) (by decide) rfl (Nat.le_of_ble_eq_true rfl) (fun X C => ?_)
  have C : xC D k (xo X D k none (wX ad k res)) X cX0_restart 2 RX0 wsX0_restart none rmX0_restart := C
  show xJ l D k (xo X D k none (wX ad k res)) X 2 0 [(0, .ref (ad 35))] [] (wX ad k S)
  unfold m_X0_restart at hM
  refine xj_iconst C dX0_restart_0 ?_
  refine xj_istore_n C (L1 := [(1, .int (xi 0)), (0, .ref (ad 35))]) dX0_restart_1 rfl (by decide) rfl ?_
  obtain ⟨r8, hLr8, hM⟩ := xbd hM
  refine xj_loc C [1, 0] (L1 := [(0, .ref (ad 35)), (1, .int (xi 0))]) rfl ?_
  refine j_X0_restart_L2 C _ _ _ _ hLr8 ?_
  obtain rfl := Option.some.inj hM
  exact xj_vret C rfl dX0_restart_37
