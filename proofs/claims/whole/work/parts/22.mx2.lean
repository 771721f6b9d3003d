/-! mirrors and contracts (by program: wip/whole/gen.py, mkparts.py) -/
def rmX2_gather : Room := { frames := 1, cells := 0, slots := 0, locals := 21 }
theorem hv_X2_gather : yX2_gather.cls = RX2 ∧ yX2_gather.cls ≠ "java/lang/invoke/MethodHandle" ∧ yX2_gather.cls ≠ "java/lang/invoke/VarHandle" ∧ (parseMethodDescriptor yX2_gather.desc).map (fun d => d.parameters.length) = some 1 := by decide +kernel
def m_X2_gather_L20 (p3 : Int) : Nat → Int → Int → xS → Option (Int × xS)
  | 0, _, _, _ => none
  | n + 1, v2, v4, S => xck (xr v4) (if 34 ≤ v4 then some (v2, S) else xck (xr v2) (if 34 ≤ v2 then some (v2, S) else (m_X0_sourceOf v4 S).bind (fun r8 => (xck (xr r8 ∧ xr p3) (if r8 = p3 then xck (0 ≤ v2 ∧ v2 < 34) (some ((v2 + 1), (xup S 14 v2 v4))) else some (v2, S))).bind (fun r9 => m_X2_gather_L20 p3 n r9.1 (v4 + 1) r9.2))))
def m_X2_gather_L4 : Nat → Int → Int → xS → Option (Int × xS)
  | 0, _, _, _ => none
  | n + 1, v2, v3, S => xck (xr v3) (if 14 ≤ v3 then some (v2, S) else xck (0 ≤ v3 ∧ v3 < 15) ((m_X2_gather_L20 v3 2000 v2 0 (xup S 13 v3 v2)).bind (fun r13 => m_X2_gather_L4 n r13.1 (v3 + 1) r13.2)))
def m_X2_gather (S : xS) : Option (xS) := (m_X2_gather_L4 2000 0 0 S).bind (fun r14 => some (xup r14.2 13 14 r14.1))
set_option maxRecDepth 100000 in
set_option maxHeartbeats 4000000 in
theorem j_X2_gather_L20 {l : Launch} {D : va_G} {k : Nat → ClassId} {ad : Nat → Nat} {o : xO} {X : xX} (C : xC D k o X cX2_gather 5 RX2 wsX2_gather none rmX2_gather) (p3 : Int) : ∀ (n : Nat) (v2 : Int) (v4 : Int) (S : xS) (r : Int × xS), m_X2_gather_L20 p3 n v2 v4 S = some r → (xJ l D k o X 5 60 [(0, .ref (ad 37)), (1, .ref (ad 35)), (2, .int (xi r.1)), (3, .int (xi p3))] [] (wX ad k r.2)) → xJ l D k o X 5 20 [(0, .ref (ad 37)), (1, .ref (ad 35)), (2, .int (xi v2)), (3, .int (xi p3)), (4, .int (xi v4))] [] (wX ad k S) := by
  intro n
  induction n with
  | zero =>
    intro v2 v4 S r hM
    cases hM
  | succ n ih =>
    intro v2 v4 S r hM K
    unfold m_X2_gather_L20 at hM
    refine xj_iload C 4 dX2_gather_20 rfl ?_
    refine xj_bipush C (n := 34) (by decide) dX2_gather_22 ?_
    obtain ⟨g4, hM⟩ := xck_some hM
    refine xj_icmp_ge C (tgt := 60) dX2_gather_24 (by decide) ⟨g4, (by decide)⟩ (fun c5 => ?_) (fun c5 => ?_)
    · have hM := xit hM c5
      obtain rfl := Option.some.inj hM
      refine xj_loc C [0, 1, 2, 3] (L1 := [(0, .ref (ad 37)), (1, .ref (ad 35)), (2, .int (xi v2)), (3, .int (xi p3))]) rfl ?_
      exact K
    · have hM := xif hM c5
      refine xj_iload_n C 2 dX2_gather_27 rfl rfl ?_
      refine xj_bipush C (n := 34) (by decide) dX2_gather_28 ?_
      obtain ⟨g6, hM⟩ := xck_some hM
      refine xj_icmp_ge C (tgt := 60) dX2_gather_30 (by decide) ⟨g6, (by decide)⟩ (fun c7 => ?_) (fun c7 => ?_)
      · have hM := xit hM c7
        obtain rfl := Option.some.inj hM
        refine xj_loc C [0, 1, 2, 3] (L1 := [(0, .ref (ad 37)), (1, .ref (ad 35)), (2, .int (xi v2)), (3, .int (xi p3))]) rfl ?_
        exact K
      · have hM := xif hM c7
        refine xj_aload_n C 1 dX2_gather_33 rfl rfl ?_
        refine xj_iload C 4 dX2_gather_34 rfl ?_
        obtain ⟨r8, hRr8, hM⟩ := xbd hM
        refine xj_callV C [.int (xi v4)] [] 1 (c_X0_sourceOf hRr8) gX2_gather_X0_sourceOf rfl ⟨rfl, rfl⟩ hv_X0_sourceOf ⟨Nat.le_of_ble_eq_true rfl, Nat.le_of_ble_eq_true rfl⟩ 35 (eX_35 ad k _) rfl rfl (Nat.le_of_ble_eq_true rfl) dX2_gather_36 ?_
        refine xj_iload_n C 3 dX2_gather_39 rfl rfl ?_
        obtain ⟨r9, hRr9, hM⟩ := xbd hM
        have Kr9 : xJ l D k o X 5 54 [(0, .ref (ad 37)), (1, .ref (ad 35)), (2, .int (xi r9.1)), (3, .int (xi p3)), (4, .int (xi v4))] [] (wX ad k r9.2) := by
          refine xj_iinc C 4 (L1 := [(4, .int (xi (v4 + 1))), (0, .ref (ad 37)), (1, .ref (ad 35)), (2, .int (xi r9.1)), (3, .int (xi p3))]) dX2_gather_54 rfl (by decide) rfl ?_
          refine xj_goto C (tgt := 20) dX2_gather_57 (by decide) ?_
          refine xj_loc C [1, 2, 3, 4, 0] (L1 := [(0, .ref (ad 37)), (1, .ref (ad 35)), (2, .int (xi r9.1)), (3, .int (xi p3)), (4, .int (xi (v4 + 1)))]) rfl ?_
          exact ih _ _ _ _ hM K
        clear hM
        have hM := hRr9
        obtain ⟨g10, hM⟩ := xck_some hM
        refine xj_icmp_ne C (tgt := 54) dX2_gather_40 (by decide) ⟨g10.1, g10.2⟩ (fun c11 => ?_) (fun c11 => ?_)
        · have hM := xif hM c11
          obtain rfl := Option.some.inj hM
          exact Kr9
        · have hM := xit hM c11
          refine xj_aload_n C 0 dX2_gather_43 rfl rfl ?_
          refine xj_get C (fun _ h => List.mem_cons_of_mem _ (List.mem_append_left _ (List.mem_append_right _ h))) 37 (eX_37 ad k S) rfl 1 (by decide) (List.mem_of_getElem? (i := 2) rfl) (fun _ _ h => h) rfl dX2_gather_44 ?_
          refine xj_iload_n C 2 dX2_gather_47 rfl rfl ?_
          refine xj_iload C 4 dX2_gather_48 rfl ?_
          obtain ⟨g12, hM⟩ := xck_some hM
          refine xj_iast C 14 S 14 (eX_14 ad k S) (Nat.le_of_ble_eq_true rfl) g12 (sX_14 ad k S v2 v4) dX2_gather_50 ?_
          refine xj_iinc C 2 (L1 := [(2, .int (xi (v2 + 1))), (0, .ref (ad 37)), (1, .ref (ad 35)), (3, .int (xi p3)), (4, .int (xi v4))]) dX2_gather_51 rfl (by decide) rfl ?_
          obtain rfl := Option.some.inj hM
          refine xj_loc C [1, 2, 0, 3, 4] (L1 := [(0, .ref (ad 37)), (1, .ref (ad 35)), (2, .int (xi (v2 + 1))), (3, .int (xi p3)), (4, .int (xi v4))]) rfl ?_
          exact Kr9
set_option maxRecDepth 100000 in
set_option maxHeartbeats 4000000 in
theorem j_X2_gather_L4 {l : Launch} {D : va_G} {k : Nat → ClassId} {ad : Nat → Nat} {o : xO} {X : xX} (C : xC D k o X cX2_gather 5 RX2 wsX2_gather none rmX2_gather) : ∀ (n : Nat) (v2 : Int) (v3 : Int) (S : xS) (r : Int × xS), m_X2_gather_L4 n v2 v3 S = some r → (xJ l D k o X 5 66 [(0, .ref (ad 37)), (2, .int (xi r.1))] [] (wX ad k r.2)) → xJ l D k o X 5 4 [(0, .ref (ad 37)), (1, .ref (ad 35)), (2, .int (xi v2)), (3, .int (xi v3))] [] (wX ad k S) := by
  intro n
  induction n with
  | zero =>
    intro v2 v3 S r hM
    cases hM
  | succ n ih =>
    intro v2 v3 S r hM K
    unfold m_X2_gather_L4 at hM
    refine xj_iload_n C 3 dX2_gather_4 rfl rfl ?_
    refine xj_bipush C (n := 14) (by decide) dX2_gather_5 ?_
    obtain ⟨g1, hM⟩ := xck_some hM
    refine xj_icmp_ge C (tgt := 66) dX2_gather_7 (by decide) ⟨g1, (by decide)⟩ (fun c2 => ?_) (fun c2 => ?_)
    · have hM := xit hM c2
      obtain rfl := Option.some.inj hM
      refine xj_loc C [0, 2] (L1 := [(0, .ref (ad 37)), (2, .int (xi v2))]) rfl ?_
      exact K
    · have hM := xif hM c2
      refine xj_aload_n C 0 dX2_gather_10 rfl rfl ?_
      refine xj_get C (fun _ h => List.mem_cons_of_mem _ (List.mem_append_left _ (List.mem_append_right _ h))) 37 (eX_37 ad k S) rfl 0 (by decide) (List.mem_of_getElem? (i := 1) rfl) (fun _ _ h => h) rfl dX2_gather_11 ?_
      refine xj_iload_n C 3 dX2_gather_14 rfl rfl ?_
      refine xj_iload_n C 2 dX2_gather_15 rfl rfl ?_
      obtain ⟨g3, hM⟩ := xck_some hM
      refine xj_iast C 13 S 13 (eX_13 ad k S) (Nat.le_of_ble_eq_true rfl) g3 (sX_13 ad k S v3 v2) dX2_gather_16 ?_
      refine xj_iconst C dX2_gather_17 ?_
      refine xj_istore C (L1 := [(4, .int (xi 0)), (0, .ref (ad 37)), (1, .ref (ad 35)), (2, .int (xi v2)), (3, .int (xi v3))]) dX2_gather_18 (by decide) rfl ?_
      obtain ⟨r13, hLr13, hM⟩ := xbd hM
      refine xj_loc C [1, 2, 3, 4, 0] (L1 := [(0, .ref (ad 37)), (1, .ref (ad 35)), (2, .int (xi v2)), (3, .int (xi v3)), (4, .int (xi 0))]) rfl ?_
      refine j_X2_gather_L20 C v3 _ _ _ _ _ hLr13 ?_
      refine xj_iinc C 3 (L1 := [(3, .int (xi (v3 + 1))), (0, .ref (ad 37)), (1, .ref (ad 35)), (2, .int (xi r13.1))]) dX2_gather_60 rfl (by decide) rfl ?_
      refine xj_goto C (tgt := 4) dX2_gather_63 (by decide) ?_
      refine xj_loc C [1, 2, 3, 0] (L1 := [(0, .ref (ad 37)), (1, .ref (ad 35)), (2, .int (xi r13.1)), (3, .int (xi (v3 + 1)))]) rfl ?_
      exact ih _ _ _ _ hM K
set_option maxRecDepth 100000 in
set_option maxHeartbeats 4000000 in
theorem c_X2_gather {l : Launch} {D : va_G} {k : Nat → ClassId} {ad : Nat → Nat} {S : xS} {res : xS} (hM : m_X2_gather S = some res) : xM l yX2_gather wsX2_gather rmX2_gather D k [.ref (ad 37), .ref (ad 35)] (wX ad k S) none (wX ad k res) := by
  refine xM_of (ret := none) (by decide) rfl (Nat.le_of_ble_eq_true rfl) (fun X C => ?_)
  have C : xC D k (xo X D k none (wX ad k res)) X cX2_gather 5 RX2 wsX2_gather none rmX2_gather := C
  show xJ l D k (xo X D k none (wX ad k res)) X 5 0 [(0, .ref (ad 37)), (1, .ref (ad 35))] [] (wX ad k S)
  unfold m_X2_gather at hM
  refine xj_iconst C dX2_gather_0 ?_
  refine xj_istore_n C (L1 := [(2, .int (xi 0)), (0, .ref (ad 37)), (1, .ref (ad 35))]) dX2_gather_1 rfl (by decide) rfl ?_
  refine xj_iconst C dX2_gather_2 ?_
  refine xj_istore_n C (L1 := [(3, .int (xi 0)), (2, .int (xi 0)), (0, .ref (ad 37)), (1, .ref (ad 35))]) dX2_gather_3 rfl (by decide) rfl ?_
  obtain ⟨r14, hLr14, hM⟩ := xbd hM
  refine xj_loc C [2, 3, 1, 0] (L1 := [(0, .ref (ad 37)), (1, .ref (ad 35)), (2, .int (xi 0)), (3, .int (xi 0))]) rfl ?_
  refine j_X2_gather_L4 C _ _ _ _ _ hLr14 ?_
  refine xj_aload_n C 0 dX2_gather_66 rfl rfl ?_
  refine xj_get C (fun _ h => List.mem_cons_of_mem _ (List.mem_append_left _ (List.mem_append_right _ h))) 37 (eX_37 ad k r14.2) rfl 0 (by decide) (List.mem_of_getElem? (i := 1) rfl) (fun _ _ h => h) rfl dX2_gather_67 ?_
  refine xj_bipush C (n := 14) (by decide) dX2_gather_70 ?_
  refine xj_iload_n C 1 dX2_gather_72 rfl rfl ?_
  refine xj_iast C 13 r14.2 13 (eX_13 ad k r14.2) (Nat.le_of_ble_eq_true rfl) (by decide) (sX_13 ad k r14.2 14 r14.1) dX2_gather_73 ?_
  obtain rfl := Option.some.inj hM
  exact xj_vret C rfl dX2_gather_74
def rmX2_sinksOf : Room := { frames := 0, cells := 0, slots := 0, locals := 0 }
theorem hv_X2_sinksOf : yX2_sinksOf.cls = RX2 ∧ yX2_sinksOf.cls ≠ "java/lang/invoke/MethodHandle" ∧ yX2_sinksOf.cls ≠ "java/lang/invoke/VarHandle" ∧ (parseMethodDescriptor yX2_sinksOf.desc).map (fun d => d.parameters.length) = some 1 := by decide +kernel
def m_X2_sinksOf (p1 : Int) (S : xS) : Option (Int) := xck (xr p1) (if p1 < 0 then some 0 else (if p1 < 14 then xck (0 ≤ (p1 + 1) ∧ (p1 + 1) < 15) (xck (0 ≤ p1 ∧ p1 < 15) (some ((S 13 (p1 + 1)) - (S 13 p1)))) else some 0))
set_option maxRecDepth 100000 in
set_option maxHeartbeats 4000000 in
theorem c_X2_sinksOf {l : Launch} {D : va_G} {k : Nat → ClassId} {ad : Nat → Nat} {S : xS} {p1 : Int} {res : Int} (hM : m_X2_sinksOf p1 S = some res) : xM l yX2_sinksOf wsX2_sinksOf rmX2_sinksOf D k [.ref (ad 37), .int (xi p1)] (wX ad k S) (some (.int (xi res))) (wX ad k S) := by
  refine xM_of (ret := (some .int)) (by decide) rfl (Nat.le_of_ble_eq_true rfl) (fun X C => ?_)
  have C : xC D k (xo X D k (some (.int (xi res))) (wX ad k S)) X cX2_sinksOf 2 RX2 wsX2_sinksOf (some .int) rmX2_sinksOf := C
  show xJ l D k (xo X D k (some (.int (xi res))) (wX ad k S)) X 2 0 [(0, .ref (ad 37)), (1, .int (xi p1))] [] (wX ad k S)
  unfold m_X2_sinksOf at hM
  refine xj_iload_n C 1 dX2_sinksOf_0 rfl rfl ?_
  obtain ⟨g1, hM⟩ := xck_some hM
  refine xj_if_lt C (tgt := 10) dX2_sinksOf_1 (by decide) g1 (fun c2 => ?_) (fun c2 => ?_)
  · have hM := xit hM c2
    refine xj_iconst C dX2_sinksOf_10 ?_
    refine xj_goto C (tgt := 29) dX2_sinksOf_11 (by decide) ?_
    obtain rfl := Option.some.inj hM
    exact xj_iret C rfl dX2_sinksOf_29
  · have hM := xif hM c2
    refine xj_iload_n C 1 dX2_sinksOf_4 rfl rfl ?_
    refine xj_bipush C (n := 14) (by decide) dX2_sinksOf_5 ?_
    refine xj_icmp_lt C (tgt := 14) dX2_sinksOf_7 (by decide) ⟨g1, (by decide)⟩ (fun c3 => ?_) (fun c3 => ?_)
    · have hM := xit hM c3
      refine xj_aload_n C 0 dX2_sinksOf_14 rfl rfl ?_
      refine xj_get C (fun _ h => List.mem_cons_of_mem _ (List.mem_append_right _ h)) 37 (eX_37 ad k S) rfl 0 (by decide) (List.mem_of_getElem? (i := 1) rfl) (fun _ _ h => h) rfl dX2_sinksOf_15 ?_
      refine xj_iload_n C 1 dX2_sinksOf_18 rfl rfl ?_
      refine xj_iconst C dX2_sinksOf_19 ?_
      refine xj_iadd C dX2_sinksOf_20 ?_
      obtain ⟨g4, hM⟩ := xck_some hM
      refine xj_iald C 13 S 13 (eX_13 ad k S) (Nat.le_of_ble_eq_true rfl) g4 dX2_sinksOf_21 ?_
      refine xj_aload_n C 0 dX2_sinksOf_22 rfl rfl ?_
      refine xj_get C (fun _ h => List.mem_cons_of_mem _ (List.mem_append_right _ h)) 37 (eX_37 ad k S) rfl 0 (by decide) (List.mem_of_getElem? (i := 1) rfl) (fun _ _ h => h) rfl dX2_sinksOf_23 ?_
      refine xj_iload_n C 1 dX2_sinksOf_26 rfl rfl ?_
      obtain ⟨g5, hM⟩ := xck_some hM
      refine xj_iald C 13 S 13 (eX_13 ad k S) (Nat.le_of_ble_eq_true rfl) g5 dX2_sinksOf_27 ?_
      refine xj_isub C dX2_sinksOf_28 ?_
      obtain rfl := Option.some.inj hM
      exact xj_iret C rfl dX2_sinksOf_29
    · have hM := xif hM c3
      refine xj_iconst C dX2_sinksOf_10 ?_
      refine xj_goto C (tgt := 29) dX2_sinksOf_11 (by decide) ?_
      obtain rfl := Option.some.inj hM
      exact xj_iret C rfl dX2_sinksOf_29
def rmX2_sinkAt : Room := { frames := 0, cells := 0, slots := 0, locals := 0 }
theorem hv_X2_sinkAt : yX2_sinkAt.cls = RX2 ∧ yX2_sinkAt.cls ≠ "java/lang/invoke/MethodHandle" ∧ yX2_sinkAt.cls ≠ "java/lang/invoke/VarHandle" ∧ (parseMethodDescriptor yX2_sinkAt.desc).map (fun d => d.parameters.length) = some 2 := by decide +kernel
def m_X2_sinkAt (p1 : Int) (p2 : Int) (S : xS) : Option (Int) := xck (xr p1) (if p1 < 0 then some (-1) else (if 14 ≤ p1 then some (-1) else xck (xr p2) (if 0 ≤ p2 then xck (0 ≤ p1 ∧ p1 < 15) (xck (0 ≤ (p1 + 1) ∧ (p1 + 1) < 15) (xck (xr ((S 13 p1) + p2) ∧ xr (S 13 (p1 + 1))) (if (S 13 (p1 + 1)) ≤ ((S 13 p1) + p2) then some (-1) else xck (0 ≤ ((S 13 p1) + p2) ∧ ((S 13 p1) + p2) < 34) (some (S 14 ((S 13 p1) + p2)))))) else some (-1))))
set_option maxRecDepth 100000 in
set_option maxHeartbeats 4000000 in
theorem c_X2_sinkAt {l : Launch} {D : va_G} {k : Nat → ClassId} {ad : Nat → Nat} {S : xS} {p1 : Int} {p2 : Int} {res : Int} (hM : m_X2_sinkAt p1 p2 S = some res) : xM l yX2_sinkAt wsX2_sinkAt rmX2_sinkAt D k [.ref (ad 37), .int (xi p1), .int (xi p2)] (wX ad k S) (some (.int (xi res))) (wX ad k S) := by
  refine xM_of (ret := (some .int)) (by decide) rfl (Nat.le_of_ble_eq_true rfl) (fun X C => ?_)
  have C : xC D k (xo X D k (some (.int (xi res))) (wX ad k S)) X cX2_sinkAt 4 RX2 wsX2_sinkAt (some .int) rmX2_sinkAt := C
  show xJ l D k (xo X D k (some (.int (xi res))) (wX ad k S)) X 4 0 [(0, .ref (ad 37)), (1, .int (xi p1)), (2, .int (xi p2))] [] (wX ad k S)
  unfold m_X2_sinkAt at hM
  refine xj_iload_n C 1 dX2_sinkAt_0 rfl rfl ?_
  obtain ⟨g1, hM⟩ := xck_some hM
  refine xj_if_lt C (tgt := 14) dX2_sinkAt_1 (by decide) g1 (fun c2 => ?_) (fun c2 => ?_)
  · have hM := xit hM c2
    refine xj_iconst C dX2_sinkAt_14 ?_
    obtain rfl := Option.some.inj hM
    exact xj_iret C rfl dX2_sinkAt_15
  · have hM := xif hM c2
    refine xj_iload_n C 1 dX2_sinkAt_4 rfl rfl ?_
    refine xj_bipush C (n := 14) (by decide) dX2_sinkAt_5 ?_
    refine xj_icmp_ge C (tgt := 14) dX2_sinkAt_7 (by decide) ⟨g1, (by decide)⟩ (fun c3 => ?_) (fun c3 => ?_)
    · have hM := xit hM c3
      refine xj_iconst C dX2_sinkAt_14 ?_
      obtain rfl := Option.some.inj hM
      exact xj_iret C rfl dX2_sinkAt_15
    · have hM := xif hM c3
      refine xj_iload_n C 2 dX2_sinkAt_10 rfl rfl ?_
      obtain ⟨g4, hM⟩ := xck_some hM
      refine xj_if_ge C (tgt := 16) dX2_sinkAt_11 (by decide) g4 (fun c5 => ?_) (fun c5 => ?_)
      · have hM := xit hM c5
        refine xj_aload_n C 0 dX2_sinkAt_16 rfl rfl ?_
        refine xj_get C (fun _ h => List.mem_cons_of_mem _ (List.mem_append_right _ h)) 37 (eX_37 ad k S) rfl 0 (by decide) (List.mem_of_getElem? (i := 1) rfl) (fun _ _ h => h) rfl dX2_sinkAt_17 ?_
        refine xj_iload_n C 1 dX2_sinkAt_20 rfl rfl ?_
        obtain ⟨g6, hM⟩ := xck_some hM
        refine xj_iald C 13 S 13 (eX_13 ad k S) (Nat.le_of_ble_eq_true rfl) g6 dX2_sinkAt_21 ?_
        refine xj_iload_n C 2 dX2_sinkAt_22 rfl rfl ?_
        refine xj_iadd C dX2_sinkAt_23 ?_
        refine xj_istore_n C (L1 := [(3, .int (xi ((S 13 p1) + p2))), (0, .ref (ad 37)), (1, .int (xi p1)), (2, .int (xi p2))]) dX2_sinkAt_24 rfl (by decide) rfl ?_
        refine xj_iload_n C 0 dX2_sinkAt_25 rfl rfl ?_
        refine xj_aload_n C 1 dX2_sinkAt_26 rfl rfl ?_
        refine xj_get C (fun _ h => List.mem_cons_of_mem _ (List.mem_append_right _ h)) 37 (eX_37 ad k S) rfl 0 (by decide) (List.mem_of_getElem? (i := 1) rfl) (fun _ _ h => h) rfl dX2_sinkAt_27 ?_
        refine xj_iload_n C 2 dX2_sinkAt_30 rfl rfl ?_
        refine xj_iconst C dX2_sinkAt_31 ?_
        refine xj_iadd C dX2_sinkAt_32 ?_
        obtain ⟨g7, hM⟩ := xck_some hM
        refine xj_iald C 13 S 13 (eX_13 ad k S) (Nat.le_of_ble_eq_true rfl) g7 dX2_sinkAt_33 ?_
        obtain ⟨g8, hM⟩ := xck_some hM
        refine xj_icmp_ge C (tgt := 46) dX2_sinkAt_34 (by decide) ⟨g8.1, g8.2⟩ (fun c9 => ?_) (fun c9 => ?_)
        · have hM := xit hM c9
          refine xj_iconst C dX2_sinkAt_46 ?_
          obtain rfl := Option.some.inj hM
          exact xj_iret C rfl dX2_sinkAt_47
        · have hM := xif hM c9
          refine xj_aload_n C 1 dX2_sinkAt_37 rfl rfl ?_
          refine xj_get C (fun _ h => List.mem_cons_of_mem _ (List.mem_append_right _ h)) 37 (eX_37 ad k S) rfl 1 (by decide) (List.mem_of_getElem? (i := 2) rfl) (fun _ _ h => h) rfl dX2_sinkAt_38 ?_
          refine xj_iload_n C 0 dX2_sinkAt_41 rfl rfl ?_
          obtain ⟨g10, hM⟩ := xck_some hM
          refine xj_iald C 14 S 14 (eX_14 ad k S) (Nat.le_of_ble_eq_true rfl) g10 dX2_sinkAt_42 ?_
          refine xj_goto C (tgt := 47) dX2_sinkAt_43 (by decide) ?_
          obtain rfl := Option.some.inj hM
          exact xj_iret C rfl dX2_sinkAt_47
      · have hM := xif hM c5
        refine xj_iconst C dX2_sinkAt_14 ?_
        obtain rfl := Option.some.inj hM
        exact xj_iret C rfl dX2_sinkAt_15
