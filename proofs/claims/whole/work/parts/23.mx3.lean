/-! mirrors and contracts (by program: wip/whole/gen.py, mkparts.py) -/
def rmX3_cellAt : Room := { frames := 0, cells := 0, slots := 0, locals := 0 }
theorem hv_X3_cellAt : yX3_cellAt.cls = RX3 ∧ yX3_cellAt.cls ≠ "java/lang/invoke/MethodHandle" ∧ yX3_cellAt.cls ≠ "java/lang/invoke/VarHandle" ∧ (parseMethodDescriptor yX3_cellAt.desc).map (fun d => d.parameters.length) = some 1 := by decide +kernel
def m_X3_cellAt (p1 : Int) (S : xS) : Option (Int) := xck (xr p1) (if p1 < 0 then some (-1) else (if p1 < 16 then xck (0 ≤ p1 ∧ p1 < 16) (some (S 15 p1)) else some (-1)))
set_option maxRecDepth 100000 in
set_option maxHeartbeats 4000000 in
theorem c_X3_cellAt {l : Launch} {D : va_G} {k : Nat → ClassId} {ad : Nat → Nat} {S : xS} {p1 : Int} {res : Int} (hM : m_X3_cellAt p1 S = some res) : xM l yX3_cellAt wsX3_cellAt rmX3_cellAt D k [.ref (ad 38), .int (xi p1)] (wX ad k S) (some (.int (xi res))) (wX ad k S) := by
  refine xM_of (ret := (some .int)) (by decide) rfl (Nat.le_of_ble_eq_true rfl) (fun X C => ?_)
  have C : xC D k (xo X D k (some (.int (xi res))) (wX ad k S)) X cX3_cellAt 2 RX3 wsX3_cellAt (some .int) rmX3_cellAt := C
  show xJ l D k (xo X D k (some (.int (xi res))) (wX ad k S)) X 2 0 [(0, .ref (ad 38)), (1, .int (xi p1))] [] (wX ad k S)
  unfold m_X3_cellAt at hM
  refine xj_iload_n C 1 dX3_cellAt_0 rfl rfl ?_
  obtain ⟨g1, hM⟩ := xck_some hM
  refine xj_if_lt C (tgt := 10) dX3_cellAt_1 (by decide) g1 (fun c2 => ?_) (fun c2 => ?_)
  · have hM := xit hM c2
    refine xj_iconst C dX3_cellAt_10 ?_
    refine xj_goto C (tgt := 20) dX3_cellAt_11 (by decide) ?_
    obtain rfl := Option.some.inj hM
    exact xj_iret C rfl dX3_cellAt_20
  · have hM := xif hM c2
    refine xj_iload_n C 1 dX3_cellAt_4 rfl rfl ?_
    refine xj_bipush C (n := 16) (by decide) dX3_cellAt_5 ?_
    refine xj_icmp_lt C (tgt := 14) dX3_cellAt_7 (by decide) ⟨g1, (by decide)⟩ (fun c3 => ?_) (fun c3 => ?_)
    · have hM := xit hM c3
      refine xj_aload_n C 0 dX3_cellAt_14 rfl rfl ?_
      refine xj_get C (fun _ h => List.mem_cons_of_mem _ (List.mem_append_right _ h)) 38 (eX_38 ad k S) rfl 2 (by decide) (List.mem_of_getElem? (i := 1) rfl) (fun _ _ h => h) rfl dX3_cellAt_15 ?_
      refine xj_iload_n C 1 dX3_cellAt_18 rfl rfl ?_
      obtain ⟨g4, hM⟩ := xck_some hM
      refine xj_iald C 15 S 15 (eX_15 ad k S) (Nat.le_of_ble_eq_true rfl) g4 dX3_cellAt_19 ?_
      obtain rfl := Option.some.inj hM
      exact xj_iret C rfl dX3_cellAt_20
    · have hM := xif hM c3
      refine xj_iconst C dX3_cellAt_10 ?_
      refine xj_goto C (tgt := 20) dX3_cellAt_11 (by decide) ?_
      obtain rfl := Option.some.inj hM
      exact xj_iret C rfl dX3_cellAt_20
def rmX3_siteOf : Room := { frames := 0, cells := 0, slots := 0, locals := 0 }
theorem hv_X3_siteOf : yX3_siteOf.cls = RX3 ∧ yX3_siteOf.cls ≠ "java/lang/invoke/MethodHandle" ∧ yX3_siteOf.cls ≠ "java/lang/invoke/VarHandle" ∧ (parseMethodDescriptor yX3_siteOf.desc).map (fun d => d.parameters.length) = some 1 := by decide +kernel
def m_X3_siteOf (p1 : Int) (S : xS) : Option (Int) := xck (xr p1) (if p1 < 0 then some (-1) else (if p1 < 14 then (if 10 ≤ p1 then some ((p1 - 10) * 4) else xck (0 ≤ p1 ∧ p1 < 10) (some (S 16 p1))) else some (-1)))
set_option maxRecDepth 100000 in
set_option maxHeartbeats 4000000 in
theorem c_X3_siteOf {l : Launch} {D : va_G} {k : Nat → ClassId} {ad : Nat → Nat} {S : xS} {p1 : Int} {res : Int} (hM : m_X3_siteOf p1 S = some res) : xM l yX3_siteOf wsX3_siteOf rmX3_siteOf D k [.ref (ad 38), .int (xi p1)] (wX ad k S) (some (.int (xi res))) (wX ad k S) := by
  refine xM_of (ret := (some .int)) (by decide) rfl (Nat.le_of_ble_eq_true rfl) (fun X C => ?_)
  have C : xC D k (xo X D k (some (.int (xi res))) (wX ad k S)) X cX3_siteOf 2 RX3 wsX3_siteOf (some .int) rmX3_siteOf := C
  show xJ l D k (xo X D k (some (.int (xi res))) (wX ad k S)) X 2 0 [(0, .ref (ad 38)), (1, .int (xi p1))] [] (wX ad k S)
  unfold m_X3_siteOf at hM
  refine xj_iload_n C 1 dX3_siteOf_0 rfl rfl ?_
  obtain ⟨g1, hM⟩ := xck_some hM
  refine xj_if_lt C (tgt := 10) dX3_siteOf_1 (by decide) g1 (fun c2 => ?_) (fun c2 => ?_)
  · have hM := xit hM c2
    refine xj_iconst C dX3_siteOf_10 ?_
    obtain rfl := Option.some.inj hM
    exact xj_iret C rfl dX3_siteOf_11
  · have hM := xif hM c2
    refine xj_iload_n C 1 dX3_siteOf_4 rfl rfl ?_
    refine xj_bipush C (n := 14) (by decide) dX3_siteOf_5 ?_
    refine xj_icmp_lt C (tgt := 12) dX3_siteOf_7 (by decide) ⟨g1, (by decide)⟩ (fun c3 => ?_) (fun c3 => ?_)
    · have hM := xit hM c3
      refine xj_iload_n C 1 dX3_siteOf_12 rfl rfl ?_
      refine xj_bipush C (n := 10) (by decide) dX3_siteOf_13 ?_
      refine xj_icmp_ge C (tgt := 27) dX3_siteOf_15 (by decide) ⟨g1, (by decide)⟩ (fun c4 => ?_) (fun c4 => ?_)
      · have hM := xit hM c4
        refine xj_iload_n C 1 dX3_siteOf_27 rfl rfl ?_
        refine xj_bipush C (n := 10) (by decide) dX3_siteOf_28 ?_
        refine xj_isub C dX3_siteOf_30 ?_
        refine xj_iconst C dX3_siteOf_31 ?_
        refine xj_imul C dX3_siteOf_32 ?_
        obtain rfl := Option.some.inj hM
        exact xj_iret C rfl dX3_siteOf_33
      · have hM := xif hM c4
        refine xj_aload_n C 0 dX3_siteOf_18 rfl rfl ?_
        refine xj_get C (fun _ h => List.mem_cons_of_mem _ (List.mem_append_right _ h)) 38 (eX_38 ad k S) rfl 3 (by decide) (List.mem_of_getElem? (i := 1) rfl) (fun _ _ h => h) rfl dX3_siteOf_19 ?_
        refine xj_iload_n C 1 dX3_siteOf_22 rfl rfl ?_
        obtain ⟨g5, hM⟩ := xck_some hM
        refine xj_iald C 16 S 16 (eX_16 ad k S) (Nat.le_of_ble_eq_true rfl) g5 dX3_siteOf_23 ?_
        refine xj_goto C (tgt := 33) dX3_siteOf_24 (by decide) ?_
        obtain rfl := Option.some.inj hM
        exact xj_iret C rfl dX3_siteOf_33
    · have hM := xif hM c3
      refine xj_iconst C dX3_siteOf_10 ?_
      obtain rfl := Option.some.inj hM
      exact xj_iret C rfl dX3_siteOf_11
def rmX3_siteOfSink : Room := { frames := 0, cells := 0, slots := 0, locals := 0 }
theorem hv_X3_siteOfSink : yX3_siteOfSink.cls = RX3 ∧ yX3_siteOfSink.cls ≠ "java/lang/invoke/MethodHandle" ∧ yX3_siteOfSink.cls ≠ "java/lang/invoke/VarHandle" ∧ (parseMethodDescriptor yX3_siteOfSink.desc).map (fun d => d.parameters.length) = some 1 := by decide +kernel
def m_X3_siteOfSink (p1 : Int) (S : xS) : Option (Int) := xck (xr p1) (if p1 < 0 then some (-1) else (if p1 < 34 then (if 30 ≤ p1 then some ((((p1 - 30) + 1) * 4) - 1) else xck (0 ≤ p1 ∧ p1 ≤ 2147483647) (xck (0 ≤ (p1 / 3) ∧ (p1 / 3) < 10) (some (S 16 (p1 / 3))))) else some (-1)))
set_option maxRecDepth 100000 in
set_option maxHeartbeats 4000000 in
theorem c_X3_siteOfSink {l : Launch} {D : va_G} {k : Nat → ClassId} {ad : Nat → Nat} {S : xS} {p1 : Int} {res : Int} (hM : m_X3_siteOfSink p1 S = some res) : xM l yX3_siteOfSink wsX3_siteOfSink rmX3_siteOfSink D k [.ref (ad 38), .int (xi p1)] (wX ad k S) (some (.int (xi res))) (wX ad k S) := by
  refine xM_of (ret := (some .int)) (by decide) rfl (Nat.le_of_ble_eq_true rfl) (fun X C => ?_)
  have C : xC D k (xo X D k (some (.int (xi res))) (wX ad k S)) X cX3_siteOfSink 2 RX3 wsX3_siteOfSink (some .int) rmX3_siteOfSink := C
  show xJ l D k (xo X D k (some (.int (xi res))) (wX ad k S)) X 2 0 [(0, .ref (ad 38)), (1, .int (xi p1))] [] (wX ad k S)
  unfold m_X3_siteOfSink at hM
  refine xj_iload_n C 1 dX3_siteOfSink_0 rfl rfl ?_
  obtain ⟨g1, hM⟩ := xck_some hM
  refine xj_if_lt C (tgt := 10) dX3_siteOfSink_1 (by decide) g1 (fun c2 => ?_) (fun c2 => ?_)
  · have hM := xit hM c2
    refine xj_iconst C dX3_siteOfSink_10 ?_
    obtain rfl := Option.some.inj hM
    exact xj_iret C rfl dX3_siteOfSink_11
  · have hM := xif hM c2
    refine xj_iload_n C 1 dX3_siteOfSink_4 rfl rfl ?_
    refine xj_bipush C (n := 34) (by decide) dX3_siteOfSink_5 ?_
    refine xj_icmp_lt C (tgt := 12) dX3_siteOfSink_7 (by decide) ⟨g1, (by decide)⟩ (fun c3 => ?_) (fun c3 => ?_)
    · have hM := xit hM c3
      refine xj_iload_n C 1 dX3_siteOfSink_12 rfl rfl ?_
      refine xj_bipush C (n := 30) (by decide) dX3_siteOfSink_13 ?_
      refine xj_icmp_ge C (tgt := 29) dX3_siteOfSink_15 (by decide) ⟨g1, (by decide)⟩ (fun c4 => ?_) (fun c4 => ?_)
      · have hM := xit hM c4
        refine xj_iload_n C 1 dX3_siteOfSink_29 rfl rfl ?_
        refine xj_bipush C (n := 30) (by decide) dX3_siteOfSink_30 ?_
        refine xj_isub C dX3_siteOfSink_32 ?_
        refine xj_iconst C dX3_siteOfSink_33 ?_
        refine xj_iadd C dX3_siteOfSink_34 ?_
        refine xj_iconst C dX3_siteOfSink_35 ?_
        refine xj_imul C dX3_siteOfSink_36 ?_
        refine xj_iconst C dX3_siteOfSink_37 ?_
        refine xj_isub C dX3_siteOfSink_38 ?_
        obtain rfl := Option.some.inj hM
        exact xj_iret C rfl dX3_siteOfSink_39
      · have hM := xif hM c4
        refine xj_aload_n C 0 dX3_siteOfSink_18 rfl rfl ?_
        refine xj_get C (fun _ h => List.mem_cons_of_mem _ (List.mem_append_right _ h)) 38 (eX_38 ad k S) rfl 3 (by decide) (List.mem_of_getElem? (i := 1) rfl) (fun _ _ h => h) rfl dX3_siteOfSink_19 ?_
        refine xj_iload_n C 1 dX3_siteOfSink_22 rfl rfl ?_
        refine xj_iconst C dX3_siteOfSink_23 ?_
        obtain ⟨g5, hM⟩ := xck_some hM
        refine xj_idiv C ⟨g5.1, g5.2, by decide, by decide⟩ dX3_siteOfSink_24 ?_
        obtain ⟨g6, hM⟩ := xck_some hM
        refine xj_iald C 16 S 16 (eX_16 ad k S) (Nat.le_of_ble_eq_true rfl) g6 dX3_siteOfSink_25 ?_
        refine xj_goto C (tgt := 39) dX3_siteOfSink_26 (by decide) ?_
        obtain rfl := Option.some.inj hM
        exact xj_iret C rfl dX3_siteOfSink_39
    · have hM := xif hM c3
      refine xj_iconst C dX3_siteOfSink_10 ?_
      obtain rfl := Option.some.inj hM
      exact xj_iret C rfl dX3_siteOfSink_11
def rmX3_put : Room := { frames := 0, cells := 0, slots := 0, locals := 0 }
theorem hv_X3_put : yX3_put.cls = RX3 ∧ yX3_put.cls ≠ "java/lang/invoke/MethodHandle" ∧ yX3_put.cls ≠ "java/lang/invoke/VarHandle" ∧ (parseMethodDescriptor yX3_put.desc).map (fun d => d.parameters.length) = some 2 := by decide +kernel
def m_X3_put (p1 : Int) (p2 : Int) (S : xS) : Option (xS) := xck (xr p2) (if p2 < 0 then some S else (if p2 < 16 then xck (0 ≤ p2 ∧ p2 < 16) (xck (xr p1) (if p1 < 0 then some (xup S 15 p2 p1) else (if 10 ≤ p1 then some (xup S 15 p2 p1) else xck (0 ≤ p1 ∧ p1 < 10) (some (xup (xup S 15 p2 p1) 16 p1 p2))))) else some S))
set_option maxRecDepth 100000 in
set_option maxHeartbeats 4000000 in
theorem c_X3_put {l : Launch} {D : va_G} {k : Nat → ClassId} {ad : Nat → Nat} {S : xS} {p1 : Int} {p2 : Int} {res : xS} (hM : m_X3_put p1 p2 S = some res) : xM l yX3_put wsX3_put rmX3_put D k [.ref (ad 38), .int (xi p1), .int (xi p2)] (wX ad k S) none (wX ad k res) := by
  refine xM_of (ret := none) (by decide) rfl (Nat.le_of_ble_eq_true rfl) (fun X C => ?_)
  have C : xC D k (xo X D k none (wX ad k res)) X cX3_put 3 RX3 wsX3_put none rmX3_put := C
  show xJ l D k (xo X D k none (wX ad k res)) X 3 0 [(0, .ref (ad 38)), (1, .int (xi p1)), (2, .int (xi p2))] [] (wX ad k S)
  unfold m_X3_put at hM
  refine xj_iload_n C 2 dX3_put_0 rfl rfl ?_
  obtain ⟨g1, hM⟩ := xck_some hM
  refine xj_if_lt C (tgt := 10) dX3_put_1 (by decide) g1 (fun c2 => ?_) (fun c2 => ?_)
  · have hM := xit hM c2
    obtain rfl := Option.some.inj hM
    exact xj_vret C rfl dX3_put_10
  · have hM := xif hM c2
    refine xj_iload_n C 2 dX3_put_4 rfl rfl ?_
    refine xj_bipush C (n := 16) (by decide) dX3_put_5 ?_
    refine xj_icmp_lt C (tgt := 11) dX3_put_7 (by decide) ⟨g1, (by decide)⟩ (fun c3 => ?_) (fun c3 => ?_)
    · have hM := xit hM c3
      refine xj_aload_n C 0 dX3_put_11 rfl rfl ?_
      refine xj_get C (fun _ h => List.mem_cons_of_mem _ (List.mem_append_right _ h)) 38 (eX_38 ad k S) rfl 2 (by decide) (List.mem_of_getElem? (i := 1) rfl) (fun _ _ h => h) rfl dX3_put_12 ?_
      refine xj_iload_n C 2 dX3_put_15 rfl rfl ?_
      refine xj_iload_n C 1 dX3_put_16 rfl rfl ?_
      obtain ⟨g4, hM⟩ := xck_some hM
      refine xj_iast C 15 S 15 (eX_15 ad k S) (Nat.le_of_ble_eq_true rfl) g4 (sX_15 ad k S p2 p1) dX3_put_17 ?_
      refine xj_iload_n C 1 dX3_put_18 rfl rfl ?_
      obtain ⟨g5, hM⟩ := xck_some hM
      refine xj_if_lt C (tgt := 35) dX3_put_19 (by decide) g5 (fun c6 => ?_) (fun c6 => ?_)
      · have hM := xit hM c6
        obtain rfl := Option.some.inj hM
        exact xj_vret C rfl dX3_put_35
      · have hM := xif hM c6
        refine xj_iload_n C 1 dX3_put_22 rfl rfl ?_
        refine xj_bipush C (n := 10) (by decide) dX3_put_23 ?_
        refine xj_icmp_ge C (tgt := 35) dX3_put_25 (by decide) ⟨g5, (by decide)⟩ (fun c7 => ?_) (fun c7 => ?_)
        · have hM := xit hM c7
          obtain rfl := Option.some.inj hM
          exact xj_vret C rfl dX3_put_35
        · have hM := xif hM c7
          refine xj_aload_n C 0 dX3_put_28 rfl rfl ?_
          refine xj_get C (fun _ h => List.mem_cons_of_mem _ (List.mem_append_right _ h)) 38 (eX_38 ad k (xup S 15 p2 p1)) rfl 3 (by decide) (List.mem_of_getElem? (i := 2) rfl) (fun _ _ h => h) rfl dX3_put_29 ?_
          refine xj_iload_n C 1 dX3_put_32 rfl rfl ?_
          refine xj_iload_n C 2 dX3_put_33 rfl rfl ?_
          obtain ⟨g8, hM⟩ := xck_some hM
          refine xj_iast C 16 (xup S 15 p2 p1) 16 (eX_16 ad k (xup S 15 p2 p1)) (Nat.le_of_ble_eq_true rfl) g8 (sX_16 ad k (xup S 15 p2 p1) p1 p2) dX3_put_34 ?_
          obtain rfl := Option.some.inj hM
          exact xj_vret C rfl dX3_put_35
    · have hM := xif hM c3
      obtain rfl := Option.some.inj hM
      exact xj_vret C rfl dX3_put_10
def rmX3_spanOf : Room := { frames := 1, cells := 0, slots := 0, locals := 23 }
theorem hv_X3_spanOf : yX3_spanOf.cls = RX3 ∧ yX3_spanOf.cls ≠ "java/lang/invoke/MethodHandle" ∧ yX3_spanOf.cls ≠ "java/lang/invoke/VarHandle" ∧ (parseMethodDescriptor yX3_spanOf.desc).map (fun d => d.parameters.length) = some 1 := by decide +kernel
def m_X3_spanOf_L25 (p1 : Int) (S : xS) : Nat → Int → Int → Int → Int → Int → Option (Int × Int × Int × Int)
  | 0, _, _, _, _, _ => none
  | n + 1, v3, v4, v5, v6, v7 => (m_X2_sinksOf p1 S).bind (fun r3 => xck (xr v7 ∧ xr r3) (if r3 ≤ v7 then some (v3, v4, v5, v6) else (m_X2_sinkAt p1 v7 S).bind (fun r6 => (m_X3_siteOfSink r6 S).bind (fun r7 => xck (0 ≤ r7 ∧ r7 ≤ 2147483647) (xck (xr v3 ∧ xr (r7 / 4)) (xck (xr v4) (xck (xr v5 ∧ xr (r7 % 4)) (xck (xr v6) (m_X3_spanOf_L25 p1 S n (xb_min v3 (r7 / 4)) (xb_max v4 (r7 / 4)) (xb_min v5 (r7 % 4)) (xb_max v6 (r7 % 4)) (v7 + 1))))))))))
def m_X3_spanOf (p1 : Int) (S : xS) : Option (Int) := (m_X3_siteOf p1 S).bind (fun r1 => xck (0 ≤ r1 ∧ r1 ≤ 2147483647) ((m_X3_spanOf_L25 p1 S 2000 (r1 / 4) (r1 / 4) (r1 % 4) (r1 % 4) 0).bind (fun r13 => some (((r13.2.2.2 - r13.2.2.1) + r13.2.1) - r13.1))))
set_option maxRecDepth 100000 in
set_option maxHeartbeats 4000000 in
theorem j_X3_spanOf_L25 {l : Launch} {D : va_G} {k : Nat → ClassId} {ad : Nat → Nat} {o : xO} {X : xX} (C : xC D k o X cX3_spanOf 8 RX3 wsX3_spanOf (some .int) rmX3_spanOf) (p1 : Int) (S : xS) : ∀ (n : Nat) (v3 : Int) (v4 : Int) (v5 : Int) (v6 : Int) (v7 : Int) (r : Int × Int × Int × Int), m_X3_spanOf_L25 p1 S n v3 v4 v5 v6 v7 = some r → (xJ l D k o X 8 97 [(3, .int (xi r.1)), (4, .int (xi r.2.1)), (5, .int (xi r.2.2.1)), (6, .int (xi r.2.2.2))] [] (wX ad k S)) → xJ l D k o X 8 25 [(0, .ref (ad 38)), (1, .int (xi p1)), (3, .int (xi v3)), (4, .int (xi v4)), (5, .int (xi v5)), (6, .int (xi v6)), (7, .int (xi v7))] [] (wX ad k S) := by
  intro n
  induction n with
  | zero =>
    intro v3 v4 v5 v6 v7 r hM
    cases hM
  | succ n ih =>
    intro v3 v4 v5 v6 v7 r hM K
    unfold m_X3_spanOf_L25 at hM
    refine xj_iload C 6 dX3_spanOf_25 rfl ?_
    refine xj_aload_n C 0 dX3_spanOf_27 rfl rfl ?_
    refine xj_get C (fun _ h => List.mem_cons_of_mem _ (List.mem_append_left _ (List.mem_append_right _ h))) 38 (eX_38 ad k S) rfl 1 (by decide) (List.mem_of_getElem? (i := 1) rfl) (fun _ _ h => h) rfl dX3_spanOf_28 ?_
    refine xj_iload_n C 1 dX3_spanOf_31 rfl rfl ?_
    obtain ⟨r3, hRr3, hM⟩ := xbd hM
    refine xj_callV C [.int (xi p1)] [.int (xi v7)] 1 (c_X2_sinksOf hRr3) gX3_spanOf_X2_sinksOf rfl ⟨rfl, rfl⟩ hv_X2_sinksOf ⟨Nat.le_of_ble_eq_true rfl, Nat.le_of_ble_eq_true rfl⟩ 37 (eX_37 ad k _) rfl rfl (Nat.le_of_ble_eq_true rfl) dX3_spanOf_32 ?_
    obtain ⟨g4, hM⟩ := xck_some hM
    refine xj_icmp_ge C (tgt := 97) dX3_spanOf_35 (by decide) ⟨g4.1, g4.2⟩ (fun c5 => ?_) (fun c5 => ?_)
    · have hM := xit hM c5
      obtain rfl := Option.some.inj hM
      refine xj_loc C [2, 3, 4, 5] (L1 := [(3, .int (xi v3)), (4, .int (xi v4)), (5, .int (xi v5)), (6, .int (xi v6))]) rfl ?_
      exact K
    · have hM := xif hM c5
      refine xj_aload_n C 0 dX3_spanOf_38 rfl rfl ?_
      refine xj_aload_n C 0 dX3_spanOf_39 rfl rfl ?_
      refine xj_get C (fun _ h => List.mem_cons_of_mem _ (List.mem_append_left _ (List.mem_append_right _ h))) 38 (eX_38 ad k S) rfl 1 (by decide) (List.mem_of_getElem? (i := 1) rfl) (fun _ _ h => h) rfl dX3_spanOf_40 ?_
      refine xj_iload_n C 1 dX3_spanOf_43 rfl rfl ?_
      refine xj_iload C 6 dX3_spanOf_44 rfl ?_
      obtain ⟨r6, hRr6, hM⟩ := xbd hM
      refine xj_callV C [.int (xi p1), .int (xi v7)] [.ref (ad 38)] 2 (c_X2_sinkAt hRr6) gX3_spanOf_X2_sinkAt rfl ⟨rfl, rfl⟩ hv_X2_sinkAt ⟨Nat.le_of_ble_eq_true rfl, Nat.le_of_ble_eq_true rfl⟩ 37 (eX_37 ad k _) rfl rfl (Nat.le_of_ble_eq_true rfl) dX3_spanOf_46 ?_
      obtain ⟨r7, hRr7, hM⟩ := xbd hM
      refine xj_callV C [.int (xi r6)] [] 1 (c_X3_siteOfSink hRr7) gX3_spanOf_X3_siteOfSink rfl ⟨rfl, rfl⟩ hv_X3_siteOfSink ⟨Nat.le_of_ble_eq_true rfl, Nat.le_of_ble_eq_true rfl⟩ 38 (eX_38 ad k _) rfl rfl (Nat.le_of_ble_eq_true rfl) dX3_spanOf_49 ?_
      refine xj_istore_n C (L1 := [(2, .int (xi r7)), (0, .ref (ad 38)), (1, .int (xi p1)), (3, .int (xi v3)), (4, .int (xi v4)), (5, .int (xi v5)), (6, .int (xi v6)), (7, .int (xi v7))]) dX3_spanOf_52 rfl (by decide) rfl ?_
      refine xj_iload_n C 3 dX3_spanOf_53 rfl rfl ?_
      refine xj_iload_n C 0 dX3_spanOf_54 rfl rfl ?_
      refine xj_iconst C dX3_spanOf_55 ?_
      obtain ⟨g8, hM⟩ := xck_some hM
      refine xj_idiv C ⟨g8.1, g8.2, by decide, by decide⟩ dX3_spanOf_56 ?_
      obtain ⟨g9, hM⟩ := xck_some hM
      refine xj_mmin C ⟨g9.1, g9.2⟩ (List.mem_of_getElem? (i := 2) rfl) (List.mem_of_getElem? (i := 3) rfl) (List.mem_of_getElem? (i := 4) rfl) (List.mem_of_getElem? (i := 5) rfl) (Nat.le_of_ble_eq_true rfl) (Nat.le_of_ble_eq_true rfl) dX3_spanOf_57 ?_
      refine xj_istore_n C (L1 := [(3, .int (xi (xb_min v3 (r7 / 4)))), (2, .int (xi r7)), (0, .ref (ad 38)), (1, .int (xi p1)), (4, .int (xi v4)), (5, .int (xi v5)), (6, .int (xi v6)), (7, .int (xi v7))]) dX3_spanOf_60 rfl (by decide) rfl ?_
      refine xj_iload C 4 dX3_spanOf_61 rfl ?_
      refine xj_iload_n C 1 dX3_spanOf_63 rfl rfl ?_
      refine xj_iconst C dX3_spanOf_64 ?_
      refine xj_idiv C ⟨g8.1, g8.2, by decide, by decide⟩ dX3_spanOf_65 ?_
      obtain ⟨g10, hM⟩ := xck_some hM
      refine xj_mmax C ⟨g10, g9.2⟩ (List.mem_of_getElem? (i := 6) rfl) (List.mem_of_getElem? (i := 7) rfl) (List.mem_of_getElem? (i := 4) rfl) (List.mem_of_getElem? (i := 8) rfl) (Nat.le_of_ble_eq_true rfl) (Nat.le_of_ble_eq_true rfl) dX3_spanOf_66 ?_
      refine xj_istore C (L1 := [(4, .int (xi (xb_max v4 (r7 / 4)))), (3, .int (xi (xb_min v3 (r7 / 4)))), (2, .int (xi r7)), (0, .ref (ad 38)), (1, .int (xi p1)), (5, .int (xi v5)), (6, .int (xi v6)), (7, .int (xi v7))]) dX3_spanOf_69 (by decide) rfl ?_
      refine xj_iload C 5 dX3_spanOf_71 rfl ?_
      refine xj_iload_n C 2 dX3_spanOf_73 rfl rfl ?_
      refine xj_iconst C dX3_spanOf_74 ?_
      refine xj_irem C ⟨g8.1, g8.2, by decide, by decide⟩ dX3_spanOf_75 ?_
      obtain ⟨g11, hM⟩ := xck_some hM
      refine xj_mmin C ⟨g11.1, g11.2⟩ (List.mem_of_getElem? (i := 2) rfl) (List.mem_of_getElem? (i := 3) rfl) (List.mem_of_getElem? (i := 4) rfl) (List.mem_of_getElem? (i := 5) rfl) (Nat.le_of_ble_eq_true rfl) (Nat.le_of_ble_eq_true rfl) dX3_spanOf_76 ?_
      refine xj_istore C (L1 := [(5, .int (xi (xb_min v5 (r7 % 4)))), (4, .int (xi (xb_max v4 (r7 / 4)))), (3, .int (xi (xb_min v3 (r7 / 4)))), (2, .int (xi r7)), (0, .ref (ad 38)), (1, .int (xi p1)), (6, .int (xi v6)), (7, .int (xi v7))]) dX3_spanOf_79 (by decide) rfl ?_
      refine xj_iload C 6 dX3_spanOf_81 rfl ?_
      refine xj_iload_n C 3 dX3_spanOf_83 rfl rfl ?_
      refine xj_iconst C dX3_spanOf_84 ?_
      refine xj_irem C ⟨g8.1, g8.2, by decide, by decide⟩ dX3_spanOf_85 ?_
      obtain ⟨g12, hM⟩ := xck_some hM
      refine xj_mmax C ⟨g12, g11.2⟩ (List.mem_of_getElem? (i := 6) rfl) (List.mem_of_getElem? (i := 7) rfl) (List.mem_of_getElem? (i := 4) rfl) (List.mem_of_getElem? (i := 8) rfl) (Nat.le_of_ble_eq_true rfl) (Nat.le_of_ble_eq_true rfl) dX3_spanOf_86 ?_
      refine xj_istore C (L1 := [(6, .int (xi (xb_max v6 (r7 % 4)))), (5, .int (xi (xb_min v5 (r7 % 4)))), (4, .int (xi (xb_max v4 (r7 / 4)))), (3, .int (xi (xb_min v3 (r7 / 4)))), (2, .int (xi r7)), (0, .ref (ad 38)), (1, .int (xi p1)), (7, .int (xi v7))]) dX3_spanOf_89 (by decide) rfl ?_
      refine xj_iinc C 7 (L1 := [(7, .int (xi (v7 + 1))), (6, .int (xi (xb_max v6 (r7 % 4)))), (5, .int (xi (xb_min v5 (r7 % 4)))), (4, .int (xi (xb_max v4 (r7 / 4)))), (3, .int (xi (xb_min v3 (r7 / 4)))), (2, .int (xi r7)), (0, .ref (ad 38)), (1, .int (xi p1))]) dX3_spanOf_91 rfl (by decide) rfl ?_
      refine xj_goto C (tgt := 25) dX3_spanOf_94 (by decide) ?_
      refine xj_loc C [6, 7, 4, 3, 2, 1, 0] (L1 := [(0, .ref (ad 38)), (1, .int (xi p1)), (3, .int (xi (xb_min v3 (r7 / 4)))), (4, .int (xi (xb_max v4 (r7 / 4)))), (5, .int (xi (xb_min v5 (r7 % 4)))), (6, .int (xi (xb_max v6 (r7 % 4)))), (7, .int (xi (v7 + 1)))]) rfl ?_
      exact ih _ _ _ _ _ _ hM K
set_option maxRecDepth 100000 in
set_option maxHeartbeats 4000000 in
theorem c_X3_spanOf {l : Launch} {D : va_G} {k : Nat → ClassId} {ad : Nat → Nat} {S : xS} {p1 : Int} {res : Int} (hM : m_X3_spanOf p1 S = some res) : xM l yX3_spanOf wsX3_spanOf rmX3_spanOf D k [.ref (ad 38), .int (xi p1)] (wX ad k S) (some (.int (xi res))) (wX ad k S) := by
  refine xM_of (ret := (some .int)) (by decide) rfl (Nat.le_of_ble_eq_true rfl) (fun X C => ?_)
  have C : xC D k (xo X D k (some (.int (xi res))) (wX ad k S)) X cX3_spanOf 8 RX3 wsX3_spanOf (some .int) rmX3_spanOf := C
  show xJ l D k (xo X D k (some (.int (xi res))) (wX ad k S)) X 8 0 [(0, .ref (ad 38)), (1, .int (xi p1))] [] (wX ad k S)
  unfold m_X3_spanOf at hM
  refine xj_aload_n C 0 dX3_spanOf_0 rfl rfl ?_
  refine xj_iload_n C 1 dX3_spanOf_1 rfl rfl ?_
  obtain ⟨r1, hRr1, hM⟩ := xbd hM
  refine xj_callV C [.int (xi p1)] [] 1 (c_X3_siteOf hRr1) gX3_spanOf_X3_siteOf rfl ⟨rfl, rfl⟩ hv_X3_siteOf ⟨Nat.le_of_ble_eq_true rfl, Nat.le_of_ble_eq_true rfl⟩ 38 (eX_38 ad k _) rfl rfl (Nat.le_of_ble_eq_true rfl) dX3_spanOf_2 ?_
  refine xj_istore_n C (L1 := [(2, .int (xi r1)), (0, .ref (ad 38)), (1, .int (xi p1))]) dX3_spanOf_5 rfl (by decide) rfl ?_
  refine xj_iload_n C 0 dX3_spanOf_6 rfl rfl ?_
  refine xj_iconst C dX3_spanOf_7 ?_
  obtain ⟨g2, hM⟩ := xck_some hM
  refine xj_idiv C ⟨g2.1, g2.2, by decide, by decide⟩ dX3_spanOf_8 ?_
  refine xj_istore_n C (L1 := [(3, .int (xi (r1 / 4))), (2, .int (xi r1)), (0, .ref (ad 38)), (1, .int (xi p1))]) dX3_spanOf_9 rfl (by decide) rfl ?_
  refine xj_iload_n C 0 dX3_spanOf_10 rfl rfl ?_
  refine xj_istore C (L1 := [(4, .int (xi (r1 / 4))), (3, .int (xi (r1 / 4))), (2, .int (xi r1)), (0, .ref (ad 38)), (1, .int (xi p1))]) dX3_spanOf_11 (by decide) rfl ?_
  refine xj_iload_n C 2 dX3_spanOf_13 rfl rfl ?_
  refine xj_iconst C dX3_spanOf_14 ?_
  refine xj_irem C ⟨g2.1, g2.2, by decide, by decide⟩ dX3_spanOf_15 ?_
  refine xj_istore C (L1 := [(5, .int (xi (r1 % 4))), (4, .int (xi (r1 / 4))), (3, .int (xi (r1 / 4))), (2, .int (xi r1)), (0, .ref (ad 38)), (1, .int (xi p1))]) dX3_spanOf_16 (by decide) rfl ?_
  refine xj_iload C 0 dX3_spanOf_18 rfl ?_
  refine xj_istore C (L1 := [(6, .int (xi (r1 % 4))), (5, .int (xi (r1 % 4))), (4, .int (xi (r1 / 4))), (3, .int (xi (r1 / 4))), (2, .int (xi r1)), (0, .ref (ad 38)), (1, .int (xi p1))]) dX3_spanOf_20 (by decide) rfl ?_
  refine xj_iconst C dX3_spanOf_22 ?_
  refine xj_istore C (L1 := [(7, .int (xi 0)), (6, .int (xi (r1 % 4))), (5, .int (xi (r1 % 4))), (4, .int (xi (r1 / 4))), (3, .int (xi (r1 / 4))), (2, .int (xi r1)), (0, .ref (ad 38)), (1, .int (xi p1))]) dX3_spanOf_23 (by decide) rfl ?_
  obtain ⟨r13, hLr13, hM⟩ := xbd hM
  refine xj_loc C [6, 7, 4, 3, 2, 1, 0] (L1 := [(0, .ref (ad 38)), (1, .int (xi p1)), (3, .int (xi (r1 / 4))), (4, .int (xi (r1 / 4))), (5, .int (xi (r1 % 4))), (6, .int (xi (r1 % 4))), (7, .int (xi 0))]) rfl ?_
  refine j_X3_spanOf_L25 C p1 S _ _ _ _ _ _ _ hLr13 ?_
  refine xj_iload C 3 dX3_spanOf_97 rfl ?_
  refine xj_iload C 2 dX3_spanOf_99 rfl ?_
  refine xj_isub C dX3_spanOf_101 ?_
  refine xj_iload C 1 dX3_spanOf_102 rfl ?_
  refine xj_iadd C dX3_spanOf_104 ?_
  refine xj_iload_n C 0 dX3_spanOf_105 rfl rfl ?_
  refine xj_isub C dX3_spanOf_106 ?_
  obtain rfl := Option.some.inj hM
  exact xj_iret C rfl dX3_spanOf_107
def rmX3_sumOfSpans : Room := { frames := 2, cells := 0, slots := 0, locals := 50 }
theorem hv_X3_sumOfSpans : yX3_sumOfSpans.cls = RX3 ∧ yX3_sumOfSpans.cls ≠ "java/lang/invoke/MethodHandle" ∧ yX3_sumOfSpans.cls ≠ "java/lang/invoke/VarHandle" ∧ (parseMethodDescriptor yX3_sumOfSpans.desc).map (fun d => d.parameters.length) = some 0 := by decide +kernel
def m_X3_sumOfSpans_L4 (S : xS) : Nat → Int → Int → Option (Int)
  | 0, _, _ => none
  | n + 1, v1, v2 => xck (xr v2) (if 14 ≤ v2 then some v1 else (m_X2_sinksOf v2 S).bind (fun r3 => (xck (xr r3) (if r3 ≤ 0 then some v1 else (m_X3_spanOf v2 S).bind (fun r7 => some (v1 + r7)))).bind (fun r4 => m_X3_sumOfSpans_L4 S n r4 (v2 + 1))))
def m_X3_sumOfSpans (S : xS) : Option (Int) := (m_X3_sumOfSpans_L4 S 2000 0 0).bind (fun r8 => some r8)
set_option maxRecDepth 100000 in
set_option maxHeartbeats 4000000 in
theorem j_X3_sumOfSpans_L4 {l : Launch} {D : va_G} {k : Nat → ClassId} {ad : Nat → Nat} {o : xO} {X : xX} (C : xC D k o X cX3_sumOfSpans 3 RX3 wsX3_sumOfSpans (some .int) rmX3_sumOfSpans) (S : xS) : ∀ (n : Nat) (v1 : Int) (v2 : Int) (r : Int), m_X3_sumOfSpans_L4 S n v1 v2 = some r → (xJ l D k o X 3 35 [(1, .int (xi r))] [] (wX ad k S)) → xJ l D k o X 3 4 [(0, .ref (ad 38)), (1, .int (xi v1)), (2, .int (xi v2))] [] (wX ad k S) := by
  intro n
  induction n with
  | zero =>
    intro v1 v2 r hM
    cases hM
  | succ n ih =>
    intro v1 v2 r hM K
    unfold m_X3_sumOfSpans_L4 at hM
    refine xj_iload_n C 2 dX3_sumOfSpans_4 rfl rfl ?_
    refine xj_bipush C (n := 14) (by decide) dX3_sumOfSpans_5 ?_
    obtain ⟨g1, hM⟩ := xck_some hM
    refine xj_icmp_ge C (tgt := 35) dX3_sumOfSpans_7 (by decide) ⟨g1, (by decide)⟩ (fun c2 => ?_) (fun c2 => ?_)
    · have hM := xit hM c2
      obtain rfl := Option.some.inj hM
      refine xj_loc C [1] (L1 := [(1, .int (xi v1))]) rfl ?_
      exact K
    · have hM := xif hM c2
      refine xj_aload_n C 0 dX3_sumOfSpans_10 rfl rfl ?_
      refine xj_get C (fun _ h => List.mem_cons_of_mem _ (List.mem_append_left _ (List.mem_append_right _ h))) 38 (eX_38 ad k S) rfl 1 (by decide) (List.mem_of_getElem? (i := 1) rfl) (fun _ _ h => h) rfl dX3_sumOfSpans_11 ?_
      refine xj_iload_n C 2 dX3_sumOfSpans_14 rfl rfl ?_
      obtain ⟨r3, hRr3, hM⟩ := xbd hM
      refine xj_callV C [.int (xi v2)] [] 1 (c_X2_sinksOf hRr3) gX3_sumOfSpans_X2_sinksOf rfl ⟨rfl, rfl⟩ hv_X2_sinksOf ⟨Nat.le_of_ble_eq_true rfl, Nat.le_of_ble_eq_true rfl⟩ 37 (eX_37 ad k _) rfl rfl (Nat.le_of_ble_eq_true rfl) dX3_sumOfSpans_15 ?_
      obtain ⟨r4, hRr4, hM⟩ := xbd hM
      have Kr4 : xJ l D k o X 3 29 [(0, .ref (ad 38)), (1, .int (xi r4)), (2, .int (xi v2))] [] (wX ad k S) := by
        refine xj_iinc C 2 (L1 := [(2, .int (xi (v2 + 1))), (0, .ref (ad 38)), (1, .int (xi r4))]) dX3_sumOfSpans_29 rfl (by decide) rfl ?_
        refine xj_goto C (tgt := 4) dX3_sumOfSpans_32 (by decide) ?_
        refine xj_loc C [1, 2, 0] (L1 := [(0, .ref (ad 38)), (1, .int (xi r4)), (2, .int (xi (v2 + 1)))]) rfl ?_
        exact ih _ _ _ hM K
      clear hM
      have hM := hRr4
      obtain ⟨g5, hM⟩ := xck_some hM
      refine xj_if_le C (tgt := 29) dX3_sumOfSpans_18 (by decide) g5 (fun c6 => ?_) (fun c6 => ?_)
      · have hM := xit hM c6
        obtain rfl := Option.some.inj hM
        exact Kr4
      · have hM := xif hM c6
        refine xj_iload_n C 1 dX3_sumOfSpans_21 rfl rfl ?_
        refine xj_aload_n C 0 dX3_sumOfSpans_22 rfl rfl ?_
        refine xj_iload_n C 2 dX3_sumOfSpans_23 rfl rfl ?_
        obtain ⟨r7, hRr7, hM⟩ := xbd hM
        refine xj_callV C [.int (xi v2)] [.int (xi v1)] 1 (c_X3_spanOf hRr7) gX3_sumOfSpans_X3_spanOf rfl ⟨rfl, rfl⟩ hv_X3_spanOf ⟨Nat.le_of_ble_eq_true rfl, Nat.le_of_ble_eq_true rfl⟩ 38 (eX_38 ad k _) rfl rfl (Nat.le_of_ble_eq_true rfl) dX3_sumOfSpans_24 ?_
        refine xj_iadd C dX3_sumOfSpans_27 ?_
        refine xj_istore_n C (L1 := [(1, .int (xi (v1 + r7))), (0, .ref (ad 38)), (2, .int (xi v2))]) dX3_sumOfSpans_28 rfl (by decide) rfl ?_
        obtain rfl := Option.some.inj hM
        refine xj_loc C [1, 0, 2] (L1 := [(0, .ref (ad 38)), (1, .int (xi (v1 + r7))), (2, .int (xi v2))]) rfl ?_
        exact Kr4
set_option maxRecDepth 100000 in
set_option maxHeartbeats 4000000 in
theorem c_X3_sumOfSpans {l : Launch} {D : va_G} {k : Nat → ClassId} {ad : Nat → Nat} {S : xS} {res : Int} (hM : m_X3_sumOfSpans S = some res) : xM l yX3_sumOfSpans wsX3_sumOfSpans rmX3_sumOfSpans D k [.ref (ad 38)] (wX ad k S) (some (.int (xi res))) (wX ad k S) := by
  refine xM_of (ret := (some .int)) (by decide) rfl (Nat.le_of_ble_eq_true rfl) (fun X C => ?_)
  have C : xC D k (xo X D k (some (.int (xi res))) (wX ad k S)) X cX3_sumOfSpans 3 RX3 wsX3_sumOfSpans (some .int) rmX3_sumOfSpans := C
  show xJ l D k (xo X D k (some (.int (xi res))) (wX ad k S)) X 3 0 [(0, .ref (ad 38))] [] (wX ad k S)
  unfold m_X3_sumOfSpans at hM
  refine xj_iconst C dX3_sumOfSpans_0 ?_
  refine xj_istore_n C (L1 := [(1, .int (xi 0)), (0, .ref (ad 38))]) dX3_sumOfSpans_1 rfl (by decide) rfl ?_
  refine xj_iconst C dX3_sumOfSpans_2 ?_
  refine xj_istore_n C (L1 := [(2, .int (xi 0)), (1, .int (xi 0)), (0, .ref (ad 38))]) dX3_sumOfSpans_3 rfl (by decide) rfl ?_
  obtain ⟨r8, hLr8, hM⟩ := xbd hM
  refine xj_loc C [2, 1, 0] (L1 := [(0, .ref (ad 38)), (1, .int (xi 0)), (2, .int (xi 0))]) rfl ?_
  refine j_X3_sumOfSpans_L4 C S _ _ _ _ hLr8 ?_
  refine xj_iload_n C 0 dX3_sumOfSpans_35 rfl rfl ?_
  obtain rfl := Option.some.inj hM
  exact xj_iret C rfl dX3_sumOfSpans_36
def rmX3_exchangeIfBetter : Room := { frames := 3, cells := 0, slots := 0, locals := 72 }
theorem hv_X3_exchangeIfBetter : yX3_exchangeIfBetter.cls = RX3 ∧ yX3_exchangeIfBetter.cls ≠ "java/lang/invoke/MethodHandle" ∧ yX3_exchangeIfBetter.cls ≠ "java/lang/invoke/VarHandle" ∧ (parseMethodDescriptor yX3_exchangeIfBetter.desc).map (fun d => d.parameters.length) = some 3 := by decide +kernel
def m_X3_exchangeIfBetter (p1 : Int) (p2 : Int) (p3 : Int) (S : xS) : Option (Int × xS) := xck (0 ≤ p1 ∧ p1 < 16) (xck (0 ≤ p2 ∧ p2 < 16) (xck (xr (S 15 p1) ∧ xr (S 15 p2)) (if (S 15 p1) = (S 15 p2) then some (p3, S) else (m_X3_put (S 15 p2) p1 S).bind (fun r5 => (m_X3_put (S 15 p1) p2 r5).bind (fun r6 => (m_X3_sumOfSpans r6).bind (fun r7 => xck (xr r7 ∧ xr p3) (if p3 ≤ r7 then (m_X3_put (S 15 p1) p1 r6).bind (fun r10 => (m_X3_put (S 15 p2) p2 r10).bind (fun r11 => some (p3, r11))) else some (r7, r6))))))))
set_option maxRecDepth 100000 in
set_option maxHeartbeats 4000000 in
theorem c_X3_exchangeIfBetter {l : Launch} {D : va_G} {k : Nat → ClassId} {ad : Nat → Nat} {S : xS} {p1 : Int} {p2 : Int} {p3 : Int} {res : Int × xS} (hM : m_X3_exchangeIfBetter p1 p2 p3 S = some res) : xM l yX3_exchangeIfBetter wsX3_exchangeIfBetter rmX3_exchangeIfBetter D k [.ref (ad 38), .int (xi p1), .int (xi p2), .int (xi p3)] (wX ad k S) (some (.int (xi res.1))) (wX ad k res.2) := by
  refine xM_of (ret := (some .int)) (by decide) rfl (Nat.le_of_ble_eq_true rfl) (fun X C => ?_)
  have C : xC D k (xo X D k (some (.int (xi res.1))) (wX ad k res.2)) X cX3_exchangeIfBetter 7 RX3 wsX3_exchangeIfBetter (some .int) rmX3_exchangeIfBetter := C
  show xJ l D k (xo X D k (some (.int (xi res.1))) (wX ad k res.2)) X 7 0 [(0, .ref (ad 38)), (1, .int (xi p1)), (2, .int (xi p2)), (3, .int (xi p3))] [] (wX ad k S)
  unfold m_X3_exchangeIfBetter at hM
  refine xj_aload_n C 0 dX3_exchangeIfBetter_0 rfl rfl ?_
  refine xj_get C (fun _ h => List.mem_cons_of_mem _ (List.mem_append_left _ (List.mem_append_right _ h))) 38 (eX_38 ad k S) rfl 2 (by decide) (List.mem_of_getElem? (i := 1) rfl) (fun _ _ h => h) rfl dX3_exchangeIfBetter_1 ?_
  refine xj_iload_n C 1 dX3_exchangeIfBetter_4 rfl rfl ?_
  obtain ⟨g1, hM⟩ := xck_some hM
  refine xj_iald C 15 S 15 (eX_15 ad k S) (Nat.le_of_ble_eq_true rfl) g1 dX3_exchangeIfBetter_5 ?_
  refine xj_istore C (L1 := [(4, .int (xi (S 15 p1))), (0, .ref (ad 38)), (1, .int (xi p1)), (2, .int (xi p2)), (3, .int (xi p3))]) dX3_exchangeIfBetter_6 (by decide) rfl ?_
  refine xj_aload_n C 1 dX3_exchangeIfBetter_8 rfl rfl ?_
  refine xj_get C (fun _ h => List.mem_cons_of_mem _ (List.mem_append_left _ (List.mem_append_right _ h))) 38 (eX_38 ad k S) rfl 2 (by decide) (List.mem_of_getElem? (i := 1) rfl) (fun _ _ h => h) rfl dX3_exchangeIfBetter_9 ?_
  refine xj_iload_n C 3 dX3_exchangeIfBetter_12 rfl rfl ?_
  obtain ⟨g2, hM⟩ := xck_some hM
  refine xj_iald C 15 S 15 (eX_15 ad k S) (Nat.le_of_ble_eq_true rfl) g2 dX3_exchangeIfBetter_13 ?_
  refine xj_istore C (L1 := [(5, .int (xi (S 15 p2))), (4, .int (xi (S 15 p1))), (0, .ref (ad 38)), (1, .int (xi p1)), (2, .int (xi p2)), (3, .int (xi p3))]) dX3_exchangeIfBetter_14 (by decide) rfl ?_
  refine xj_iload C 1 dX3_exchangeIfBetter_16 rfl ?_
  refine xj_iload C 0 dX3_exchangeIfBetter_18 rfl ?_
  obtain ⟨g3, hM⟩ := xck_some hM
  refine xj_icmp_ne C (tgt := 25) dX3_exchangeIfBetter_20 (by decide) ⟨g3.1, g3.2⟩ (fun c4 => ?_) (fun c4 => ?_)
  · have hM := xif hM c4
    refine xj_aload_n C 2 dX3_exchangeIfBetter_25 rfl rfl ?_
    refine xj_iload C 0 dX3_exchangeIfBetter_26 rfl ?_
    refine xj_iload_n C 3 dX3_exchangeIfBetter_28 rfl rfl ?_
    obtain ⟨r5, hRr5, hM⟩ := xbd hM
    refine xj_callV C [.int (xi (S 15 p2)), .int (xi p1)] [] 2 (c_X3_put hRr5) gX3_exchangeIfBetter_X3_put rfl ⟨rfl, rfl⟩ hv_X3_put ⟨Nat.le_of_ble_eq_true rfl, Nat.le_of_ble_eq_true rfl⟩ 38 (eX_38 ad k _) rfl rfl (Nat.le_of_ble_eq_true rfl) dX3_exchangeIfBetter_29 ?_
    refine xj_aload_n C 2 dX3_exchangeIfBetter_32 rfl rfl ?_
    refine xj_iload C 1 dX3_exchangeIfBetter_33 rfl ?_
    refine xj_iload_n C 4 dX3_exchangeIfBetter_35 rfl rfl ?_
    obtain ⟨r6, hRr6, hM⟩ := xbd hM
    refine xj_callV C [.int (xi (S 15 p1)), .int (xi p2)] [] 2 (c_X3_put hRr6) gX3_exchangeIfBetter_X3_put rfl ⟨rfl, rfl⟩ hv_X3_put ⟨Nat.le_of_ble_eq_true rfl, Nat.le_of_ble_eq_true rfl⟩ 38 (eX_38 ad k _) rfl rfl (Nat.le_of_ble_eq_true rfl) dX3_exchangeIfBetter_36 ?_
    refine xj_aload_n C 2 dX3_exchangeIfBetter_39 rfl rfl ?_
    obtain ⟨r7, hRr7, hM⟩ := xbd hM
    refine xj_callV C [] [] 0 (c_X3_sumOfSpans hRr7) gX3_exchangeIfBetter_X3_sumOfSpans rfl ⟨rfl, rfl⟩ hv_X3_sumOfSpans ⟨Nat.le_of_ble_eq_true rfl, Nat.le_of_ble_eq_true rfl⟩ 38 (eX_38 ad k _) rfl rfl (Nat.le_of_ble_eq_true rfl) dX3_exchangeIfBetter_40 ?_
    refine xj_istore C (L1 := [(6, .int (xi r7)), (5, .int (xi (S 15 p2))), (4, .int (xi (S 15 p1))), (0, .ref (ad 38)), (1, .int (xi p1)), (2, .int (xi p2)), (3, .int (xi p3))]) dX3_exchangeIfBetter_43 (by decide) rfl ?_
    refine xj_iload C 0 dX3_exchangeIfBetter_45 rfl ?_
    refine xj_iload_n C 6 dX3_exchangeIfBetter_47 rfl rfl ?_
    obtain ⟨g8, hM⟩ := xck_some hM
    refine xj_icmp_ge C (tgt := 54) dX3_exchangeIfBetter_48 (by decide) ⟨g8.1, g8.2⟩ (fun c9 => ?_) (fun c9 => ?_)
    · have hM := xit hM c9
      refine xj_aload_n C 3 dX3_exchangeIfBetter_54 rfl rfl ?_
      refine xj_iload C 2 dX3_exchangeIfBetter_55 rfl ?_
      refine xj_iload_n C 4 dX3_exchangeIfBetter_57 rfl rfl ?_
      obtain ⟨r10, hRr10, hM⟩ := xbd hM
      refine xj_callV C [.int (xi (S 15 p1)), .int (xi p1)] [] 2 (c_X3_put hRr10) gX3_exchangeIfBetter_X3_put rfl ⟨rfl, rfl⟩ hv_X3_put ⟨Nat.le_of_ble_eq_true rfl, Nat.le_of_ble_eq_true rfl⟩ 38 (eX_38 ad k _) rfl rfl (Nat.le_of_ble_eq_true rfl) dX3_exchangeIfBetter_58 ?_
      refine xj_aload_n C 3 dX3_exchangeIfBetter_61 rfl rfl ?_
      refine xj_iload C 1 dX3_exchangeIfBetter_62 rfl ?_
      refine xj_iload_n C 5 dX3_exchangeIfBetter_64 rfl rfl ?_
      obtain ⟨r11, hRr11, hM⟩ := xbd hM
      refine xj_callV C [.int (xi (S 15 p2)), .int (xi p2)] [] 2 (c_X3_put hRr11) gX3_exchangeIfBetter_X3_put rfl ⟨rfl, rfl⟩ hv_X3_put ⟨Nat.le_of_ble_eq_true rfl, Nat.le_of_ble_eq_true rfl⟩ 38 (eX_38 ad k _) rfl rfl (Nat.le_of_ble_eq_true rfl) dX3_exchangeIfBetter_65 ?_
      refine xj_iload_n C 6 dX3_exchangeIfBetter_68 rfl rfl ?_
      obtain rfl := Option.some.inj hM
      exact xj_iret C rfl dX3_exchangeIfBetter_69
    · have hM := xif hM c9
      refine xj_iload C 0 dX3_exchangeIfBetter_51 rfl ?_
      obtain rfl := Option.some.inj hM
      exact xj_iret C rfl dX3_exchangeIfBetter_53
  · have hM := xit hM c4
    refine xj_iload_n C 5 dX3_exchangeIfBetter_23 rfl rfl ?_
    obtain rfl := Option.some.inj hM
    exact xj_iret C rfl dX3_exchangeIfBetter_24
def rmX3_isFixed : Room := { frames := 2, cells := 0, slots := 0, locals := 42 }
theorem hv_X3_isFixed : yX3_isFixed.cls = RX3 ∧ yX3_isFixed.cls ≠ "java/lang/invoke/MethodHandle" ∧ yX3_isFixed.cls ≠ "java/lang/invoke/VarHandle" ∧ (parseMethodDescriptor yX3_isFixed.desc).map (fun d => d.parameters.length) = some 1 := by decide +kernel
def m_X3_isFixed (p1 : Int) (S : xS) : Option (Int) := xck (0 ≤ p1 ∧ p1 < 16) ((m_X0_fixedTile (S 15 p1) S).bind (fun r2 => xck (xr r2) (if r2 = (-1) then some 0 else some 1)))
set_option maxRecDepth 100000 in
set_option maxHeartbeats 4000000 in
theorem c_X3_isFixed {l : Launch} {D : va_G} {k : Nat → ClassId} {ad : Nat → Nat} {S : xS} {p1 : Int} {res : Int} (hM : m_X3_isFixed p1 S = some res) : xM l yX3_isFixed wsX3_isFixed rmX3_isFixed D k [.ref (ad 38), .int (xi p1)] (wX ad k S) (some (.int (xi res))) (wX ad k S) := by
  refine xM_of (ret := (some .boolean)) (by decide) rfl (Nat.le_of_ble_eq_true rfl) (fun X C => ?_)
  have C : xC D k (xo X D k (some (.int (xi res))) (wX ad k S)) X cX3_isFixed 2 RX3 wsX3_isFixed (some .boolean) rmX3_isFixed := C
  show xJ l D k (xo X D k (some (.int (xi res))) (wX ad k S)) X 2 0 [(0, .ref (ad 38)), (1, .int (xi p1))] [] (wX ad k S)
  unfold m_X3_isFixed at hM
  refine xj_aload_n C 0 dX3_isFixed_0 rfl rfl ?_
  refine xj_get C (fun _ h => List.mem_cons_of_mem _ (List.mem_append_left _ (List.mem_append_right _ h))) 38 (eX_38 ad k S) rfl 0 (by decide) (List.mem_of_getElem? (i := 1) rfl) (fun _ _ h => h) rfl dX3_isFixed_1 ?_
  refine xj_aload_n C 0 dX3_isFixed_4 rfl rfl ?_
  refine xj_get C (fun _ h => List.mem_cons_of_mem _ (List.mem_append_left _ (List.mem_append_right _ h))) 38 (eX_38 ad k S) rfl 2 (by decide) (List.mem_of_getElem? (i := 2) rfl) (fun _ _ h => h) rfl dX3_isFixed_5 ?_
  refine xj_iload_n C 1 dX3_isFixed_8 rfl rfl ?_
  obtain ⟨g1, hM⟩ := xck_some hM
  refine xj_iald C 15 S 15 (eX_15 ad k S) (Nat.le_of_ble_eq_true rfl) g1 dX3_isFixed_9 ?_
  obtain ⟨r2, hRr2, hM⟩ := xbd hM
  refine xj_callV C [.int (xi (S 15 p1))] [] 1 (c_X0_fixedTile hRr2) gX3_isFixed_X0_fixedTile rfl ⟨rfl, rfl⟩ hv_X0_fixedTile ⟨Nat.le_of_ble_eq_true rfl, Nat.le_of_ble_eq_true rfl⟩ 35 (eX_35 ad k _) rfl rfl (Nat.le_of_ble_eq_true rfl) dX3_isFixed_10 ?_
  refine xj_iconst C dX3_isFixed_13 ?_
  obtain ⟨g3, hM⟩ := xck_some hM
  refine xj_icmp_eq C (tgt := 21) dX3_isFixed_14 (by decide) ⟨g3, (by decide)⟩ (fun c4 => ?_) (fun c4 => ?_)
  · have hM := xit hM c4
    refine xj_iconst C dX3_isFixed_21 ?_
    obtain rfl := Option.some.inj hM
    exact xj_zret (Or.inl rfl) C rfl dX3_isFixed_22
  · have hM := xif hM c4
    refine xj_iconst C dX3_isFixed_17 ?_
    refine xj_goto C (tgt := 22) dX3_isFixed_18 (by decide) ?_
    obtain rfl := Option.some.inj hM
    exact xj_zret (Or.inr rfl) C rfl dX3_isFixed_22
def rmX3_goThrough : Room := { frames := 4, cells := 0, slots := 0, locals := 98 }
theorem hv_X3_goThrough : yX3_goThrough.cls = RX3 ∧ yX3_goThrough.cls ≠ "java/lang/invoke/MethodHandle" ∧ yX3_goThrough.cls ≠ "java/lang/invoke/VarHandle" ∧ (parseMethodDescriptor yX3_goThrough.desc).map (fun d => d.parameters.length) = some 1 := by decide +kernel
def m_X3_goThrough_L15 (p3 : Int) : Nat → Int → Int → xS → Option (Int × xS)
  | 0, _, _, _ => none
  | n + 1, v2, v4, S => xck (xr v4) (if 16 ≤ v4 then some (v2, S) else (m_X3_isFixed p3 S).bind (fun r5 => xck (xr r5) (if r5 = 0 then (m_X3_isFixed v4 S).bind (fun r8 => (xck (xr r8) (if r8 = 0 then (m_X3_exchangeIfBetter p3 v4 v2 S).bind (fun r12 => some (r12.1, r12.2)) else some (v2, S))).bind (fun r9 => m_X3_goThrough_L15 p3 n r9.1 (v4 + 1) r9.2)) else some (v2, S))))
def m_X3_goThrough_L4 : Nat → Int → Int → xS → Option (Int × xS)
  | 0, _, _, _ => none
  | n + 1, v2, v3, S => xck (xr v3) (if 16 ≤ v3 then some (v2, S) else (m_X3_goThrough_L15 v3 2000 v2 (v3 + 1) S).bind (fun r13 => m_X3_goThrough_L4 n r13.1 (v3 + 1) r13.2))
def m_X3_goThrough (p1 : Int) (S : xS) : Option (Int × xS) := (m_X3_goThrough_L4 2000 p1 0 S).bind (fun r14 => some (r14.1, r14.2))
set_option maxRecDepth 100000 in
set_option maxHeartbeats 4000000 in
theorem j_X3_goThrough_L15 {l : Launch} {D : va_G} {k : Nat → ClassId} {ad : Nat → Nat} {o : xO} {X : xX} (C : xC D k o X cX3_goThrough 5 RX3 wsX3_goThrough (some .int) rmX3_goThrough) (p3 : Int) : ∀ (n : Nat) (v2 : Int) (v4 : Int) (S : xS) (r : Int × xS), m_X3_goThrough_L15 p3 n v2 v4 S = some r → (xJ l D k o X 5 54 [(0, .ref (ad 38)), (2, .int (xi r.1)), (3, .int (xi p3))] [] (wX ad k r.2)) → xJ l D k o X 5 15 [(0, .ref (ad 38)), (2, .int (xi v2)), (3, .int (xi p3)), (4, .int (xi v4))] [] (wX ad k S) := by
  intro n
  induction n with
  | zero =>
    intro v2 v4 S r hM
    cases hM
  | succ n ih =>
    intro v2 v4 S r hM K
    unfold m_X3_goThrough_L15 at hM
    refine xj_iload C 3 dX3_goThrough_15 rfl ?_
    refine xj_bipush C (n := 16) (by decide) dX3_goThrough_17 ?_
    obtain ⟨g3, hM⟩ := xck_some hM
    refine xj_icmp_ge C (tgt := 54) dX3_goThrough_19 (by decide) ⟨g3, (by decide)⟩ (fun c4 => ?_) (fun c4 => ?_)
    · have hM := xit hM c4
      obtain rfl := Option.some.inj hM
      refine xj_loc C [0, 1, 2] (L1 := [(0, .ref (ad 38)), (2, .int (xi v2)), (3, .int (xi p3))]) rfl ?_
      exact K
    · have hM := xif hM c4
      refine xj_aload_n C 0 dX3_goThrough_22 rfl rfl ?_
      refine xj_iload_n C 2 dX3_goThrough_23 rfl rfl ?_
      obtain ⟨r5, hRr5, hM⟩ := xbd hM
      refine xj_callV C [.int (xi p3)] [] 1 (c_X3_isFixed hRr5) gX3_goThrough_X3_isFixed rfl ⟨rfl, rfl⟩ hv_X3_isFixed ⟨Nat.le_of_ble_eq_true rfl, Nat.le_of_ble_eq_true rfl⟩ 38 (eX_38 ad k _) rfl rfl (Nat.le_of_ble_eq_true rfl) dX3_goThrough_24 ?_
      obtain ⟨g6, hM⟩ := xck_some hM
      refine xj_if_ne C (tgt := 54) dX3_goThrough_27 (by decide) g6 (fun c7 => ?_) (fun c7 => ?_)
      · have hM := xif hM c7
        obtain rfl := Option.some.inj hM
        refine xj_loc C [0, 1, 2] (L1 := [(0, .ref (ad 38)), (2, .int (xi v2)), (3, .int (xi p3))]) rfl ?_
        exact K
      · have hM := xit hM c7
        refine xj_aload_n C 0 dX3_goThrough_30 rfl rfl ?_
        refine xj_iload C 3 dX3_goThrough_31 rfl ?_
        obtain ⟨r8, hRr8, hM⟩ := xbd hM
        refine xj_callV C [.int (xi v4)] [] 1 (c_X3_isFixed hRr8) gX3_goThrough_X3_isFixed rfl ⟨rfl, rfl⟩ hv_X3_isFixed ⟨Nat.le_of_ble_eq_true rfl, Nat.le_of_ble_eq_true rfl⟩ 38 (eX_38 ad k _) rfl rfl (Nat.le_of_ble_eq_true rfl) dX3_goThrough_33 ?_
        obtain ⟨r9, hRr9, hM⟩ := xbd hM
        have Kr9 : xJ l D k o X 5 48 [(0, .ref (ad 38)), (2, .int (xi r9.1)), (3, .int (xi p3)), (4, .int (xi v4))] [] (wX ad k r9.2) := by
          refine xj_iinc C 3 (L1 := [(4, .int (xi (v4 + 1))), (0, .ref (ad 38)), (2, .int (xi r9.1)), (3, .int (xi p3))]) dX3_goThrough_48 rfl (by decide) rfl ?_
          refine xj_goto C (tgt := 15) dX3_goThrough_51 (by decide) ?_
          refine xj_loc C [1, 2, 3, 0] (L1 := [(0, .ref (ad 38)), (2, .int (xi r9.1)), (3, .int (xi p3)), (4, .int (xi (v4 + 1)))]) rfl ?_
          exact ih _ _ _ _ hM K
        clear hM
        have hM := hRr9
        obtain ⟨g10, hM⟩ := xck_some hM
        refine xj_if_ne C (tgt := 48) dX3_goThrough_36 (by decide) g10 (fun c11 => ?_) (fun c11 => ?_)
        · have hM := xif hM c11
          obtain rfl := Option.some.inj hM
          exact Kr9
        · have hM := xit hM c11
          refine xj_aload_n C 0 dX3_goThrough_39 rfl rfl ?_
          refine xj_iload_n C 2 dX3_goThrough_40 rfl rfl ?_
          refine xj_iload C 3 dX3_goThrough_41 rfl ?_
          refine xj_iload_n C 1 dX3_goThrough_43 rfl rfl ?_
          obtain ⟨r12, hRr12, hM⟩ := xbd hM
          refine xj_callV C [.int (xi p3), .int (xi v4), .int (xi v2)] [] 3 (c_X3_exchangeIfBetter hRr12) gX3_goThrough_X3_exchangeIfBetter rfl ⟨rfl, rfl⟩ hv_X3_exchangeIfBetter ⟨Nat.le_of_ble_eq_true rfl, Nat.le_of_ble_eq_true rfl⟩ 38 (eX_38 ad k _) rfl rfl (Nat.le_of_ble_eq_true rfl) dX3_goThrough_44 ?_
          refine xj_istore_n C (L1 := [(2, .int (xi r12.1)), (0, .ref (ad 38)), (3, .int (xi p3)), (4, .int (xi v4))]) dX3_goThrough_47 rfl (by decide) rfl ?_
          obtain rfl := Option.some.inj hM
          refine xj_loc C [1, 0, 2, 3] (L1 := [(0, .ref (ad 38)), (2, .int (xi r12.1)), (3, .int (xi p3)), (4, .int (xi v4))]) rfl ?_
          exact Kr9
set_option maxRecDepth 100000 in
set_option maxHeartbeats 4000000 in
theorem j_X3_goThrough_L4 {l : Launch} {D : va_G} {k : Nat → ClassId} {ad : Nat → Nat} {o : xO} {X : xX} (C : xC D k o X cX3_goThrough 5 RX3 wsX3_goThrough (some .int) rmX3_goThrough) : ∀ (n : Nat) (v2 : Int) (v3 : Int) (S : xS) (r : Int × xS), m_X3_goThrough_L4 n v2 v3 S = some r → (xJ l D k o X 5 60 [(2, .int (xi r.1))] [] (wX ad k r.2)) → xJ l D k o X 5 4 [(0, .ref (ad 38)), (2, .int (xi v2)), (3, .int (xi v3))] [] (wX ad k S) := by
  intro n
  induction n with
  | zero =>
    intro v2 v3 S r hM
    cases hM
  | succ n ih =>
    intro v2 v3 S r hM K
    unfold m_X3_goThrough_L4 at hM
    refine xj_iload_n C 2 dX3_goThrough_4 rfl rfl ?_
    refine xj_bipush C (n := 16) (by decide) dX3_goThrough_5 ?_
    obtain ⟨g1, hM⟩ := xck_some hM
    refine xj_icmp_ge C (tgt := 60) dX3_goThrough_7 (by decide) ⟨g1, (by decide)⟩ (fun c2 => ?_) (fun c2 => ?_)
    · have hM := xit hM c2
      obtain rfl := Option.some.inj hM
      refine xj_loc C [1] (L1 := [(2, .int (xi v2))]) rfl ?_
      exact K
    · have hM := xif hM c2
      refine xj_iload_n C 2 dX3_goThrough_10 rfl rfl ?_
      refine xj_iconst C dX3_goThrough_11 ?_
      refine xj_iadd C dX3_goThrough_12 ?_
      refine xj_istore C (L1 := [(4, .int (xi (v3 + 1))), (0, .ref (ad 38)), (2, .int (xi v2)), (3, .int (xi v3))]) dX3_goThrough_13 (by decide) rfl ?_
      obtain ⟨r13, hLr13, hM⟩ := xbd hM
      refine xj_loc C [1, 2, 3, 0] (L1 := [(0, .ref (ad 38)), (2, .int (xi v2)), (3, .int (xi v3)), (4, .int (xi (v3 + 1)))]) rfl ?_
      refine j_X3_goThrough_L15 C v3 _ _ _ _ _ hLr13 ?_
      refine xj_iinc C 2 (L1 := [(3, .int (xi (v3 + 1))), (0, .ref (ad 38)), (2, .int (xi r13.1))]) dX3_goThrough_54 rfl (by decide) rfl ?_
      refine xj_goto C (tgt := 4) dX3_goThrough_57 (by decide) ?_
      refine xj_loc C [1, 2, 0] (L1 := [(0, .ref (ad 38)), (2, .int (xi r13.1)), (3, .int (xi (v3 + 1)))]) rfl ?_
      exact ih _ _ _ _ hM K
set_option maxRecDepth 100000 in
set_option maxHeartbeats 4000000 in
theorem c_X3_goThrough {l : Launch} {D : va_G} {k : Nat → ClassId} {ad : Nat → Nat} {S : xS} {p1 : Int} {res : Int × xS} (hM : m_X3_goThrough p1 S = some res) : xM l yX3_goThrough wsX3_goThrough rmX3_goThrough D k [.ref (ad 38), .int (xi p1)] (wX ad k S) (some (.int (xi res.1))) (wX ad k res.2) := by
  refine xM_of (ret := (some .int)) (by decide) rfl (Nat.le_of_ble_eq_true rfl) (fun X C => ?_)
  have C : xC D k (xo X D k (some (.int (xi res.1))) (wX ad k res.2)) X cX3_goThrough 5 RX3 wsX3_goThrough (some .int) rmX3_goThrough := C
  show xJ l D k (xo X D k (some (.int (xi res.1))) (wX ad k res.2)) X 5 0 [(0, .ref (ad 38)), (1, .int (xi p1))] [] (wX ad k S)
  unfold m_X3_goThrough at hM
  refine xj_iload_n C 1 dX3_goThrough_0 rfl rfl ?_
  refine xj_istore_n C (L1 := [(2, .int (xi p1)), (0, .ref (ad 38)), (1, .int (xi p1))]) dX3_goThrough_1 rfl (by decide) rfl ?_
  refine xj_iconst C dX3_goThrough_2 ?_
  refine xj_istore_n C (L1 := [(3, .int (xi 0)), (2, .int (xi p1)), (0, .ref (ad 38)), (1, .int (xi p1))]) dX3_goThrough_3 rfl (by decide) rfl ?_
  obtain ⟨r14, hLr14, hM⟩ := xbd hM
  refine xj_loc C [2, 1, 0] (L1 := [(0, .ref (ad 38)), (2, .int (xi p1)), (3, .int (xi 0))]) rfl ?_
  refine j_X3_goThrough_L4 C _ _ _ _ _ hLr14 ?_
  refine xj_iload_n C 0 dX3_goThrough_60 rfl rfl ?_
  obtain rfl := Option.some.inj hM
  exact xj_iret C rfl dX3_goThrough_61
def rmX3_putFirst : Room := { frames := 2, cells := 0, slots := 0, locals := 42 }
theorem hv_X3_putFirst : yX3_putFirst.cls = RX3 ∧ yX3_putFirst.cls ≠ "java/lang/invoke/MethodHandle" ∧ yX3_putFirst.cls ≠ "java/lang/invoke/VarHandle" ∧ (parseMethodDescriptor yX3_putFirst.desc).map (fun d => d.parameters.length) = some 0 := by decide +kernel
def m_X3_putFirst_L10 : Nat → Int → xS → Option (xS)
  | 0, _, _ => none
  | n + 1, v1, S => (m_X0_size S).bind (fun r1 => xck (xr v1 ∧ xr r1) (if r1 ≤ v1 then some S else (m_X0_fixedTile v1 S).bind (fun r4 => (m_X3_put v1 r4 S).bind (fun r5 => m_X3_putFirst_L10 n (v1 + 1) r5))))
def m_X3_putFirst_L67 (p2 : Int) (S : xS) : Nat → Int → Option (Int)
  | 0, _ => none
  | n + 1, v1 => xck (xr v1) (if 16 ≤ v1 then some v1 else xck (0 ≤ v1 ∧ v1 < 16) (xck (xr (S 15 v1)) (if (S 15 v1) = (-1) then some v1 else m_X3_putFirst_L67 p2 S n (v1 + 1))))
def m_X3_putFirst_L44 : Nat → Int → Int → xS → Option (xS)
  | 0, _, _, _ => none
  | n + 1, v1, v2, S => (m_X0_size S).bind (fun r7 => xck (xr v2 ∧ xr r7) (if r7 ≤ v2 then some S else (m_X0_fixedTile v2 S).bind (fun r10 => (xck (xr r10) (if r10 = (-1) then (m_X3_putFirst_L67 v2 S 2000 v1).bind (fun r19 => (m_X3_put v2 r19 S).bind (fun r20 => some (r19, r20))) else some (v1, S))).bind (fun r11 => m_X3_putFirst_L44 n r11.1 (v2 + 1) r11.2))))
def m_X3_putFirst (S : xS) : Option (xS) := (m_X3_putFirst_L10 2000 0 (xfl S 15 16 (-1))).bind (fun r6 => (m_X3_putFirst_L44 2000 0 0 r6).bind (fun r21 => some r21))
set_option maxRecDepth 100000 in
set_option maxHeartbeats 4000000 in
theorem j_X3_putFirst_L10 {l : Launch} {D : va_G} {k : Nat → ClassId} {ad : Nat → Nat} {o : xO} {X : xX} (C : xC D k o X cX3_putFirst 3 RX3 wsX3_putFirst none rmX3_putFirst) : ∀ (n : Nat) (v1 : Int) (S : xS) (r : xS), m_X3_putFirst_L10 n v1 S = some r → (xJ l D k o X 3 40 [(0, .ref (ad 38))] [] (wX ad k r)) → xJ l D k o X 3 10 [(0, .ref (ad 38)), (1, .int (xi v1))] [] (wX ad k S) := by
  intro n
  induction n with
  | zero =>
    intro v1 S r hM
    cases hM
  | succ n ih =>
    intro v1 S r hM K
    unfold m_X3_putFirst_L10 at hM
    refine xj_iload_n C 1 dX3_putFirst_10 rfl rfl ?_
    refine xj_aload_n C 0 dX3_putFirst_11 rfl rfl ?_
    refine xj_get C (fun _ h => List.mem_cons_of_mem _ (List.mem_append_left _ (List.mem_append_right _ h))) 38 (eX_38 ad k S) rfl 0 (by decide) (List.mem_of_getElem? (i := 2) rfl) (fun _ _ h => h) rfl dX3_putFirst_12 ?_
    obtain ⟨r1, hRr1, hM⟩ := xbd hM
    refine xj_callV C [] [.int (xi v1)] 0 (c_X0_size hRr1) gX3_putFirst_X0_size rfl ⟨rfl, rfl⟩ hv_X0_size ⟨Nat.le_of_ble_eq_true rfl, Nat.le_of_ble_eq_true rfl⟩ 35 (eX_35 ad k _) rfl rfl (Nat.le_of_ble_eq_true rfl) dX3_putFirst_15 ?_
    obtain ⟨g2, hM⟩ := xck_some hM
    refine xj_icmp_ge C (tgt := 40) dX3_putFirst_18 (by decide) ⟨g2.1, g2.2⟩ (fun c3 => ?_) (fun c3 => ?_)
    · have hM := xit hM c3
      obtain rfl := Option.some.inj hM
      refine xj_loc C [0] (L1 := [(0, .ref (ad 38))]) rfl ?_
      exact K
    · have hM := xif hM c3
      refine xj_aload_n C 0 dX3_putFirst_21 rfl rfl ?_
      refine xj_iload_n C 1 dX3_putFirst_22 rfl rfl ?_
      refine xj_aload_n C 0 dX3_putFirst_23 rfl rfl ?_
      refine xj_get C (fun _ h => List.mem_cons_of_mem _ (List.mem_append_left _ (List.mem_append_right _ h))) 38 (eX_38 ad k S) rfl 0 (by decide) (List.mem_of_getElem? (i := 2) rfl) (fun _ _ h => h) rfl dX3_putFirst_24 ?_
      refine xj_iload_n C 1 dX3_putFirst_27 rfl rfl ?_
      obtain ⟨r4, hRr4, hM⟩ := xbd hM
      refine xj_callV C [.int (xi v1)] [.int (xi v1), .ref (ad 38)] 1 (c_X0_fixedTile hRr4) gX3_putFirst_X0_fixedTile rfl ⟨rfl, rfl⟩ hv_X0_fixedTile ⟨Nat.le_of_ble_eq_true rfl, Nat.le_of_ble_eq_true rfl⟩ 35 (eX_35 ad k _) rfl rfl (Nat.le_of_ble_eq_true rfl) dX3_putFirst_28 ?_
      obtain ⟨r5, hRr5, hM⟩ := xbd hM
      refine xj_callV C [.int (xi v1), .int (xi r4)] [] 2 (c_X3_put hRr5) gX3_putFirst_X3_put rfl ⟨rfl, rfl⟩ hv_X3_put ⟨Nat.le_of_ble_eq_true rfl, Nat.le_of_ble_eq_true rfl⟩ 38 (eX_38 ad k _) rfl rfl (Nat.le_of_ble_eq_true rfl) dX3_putFirst_31 ?_
      refine xj_iinc C 1 (L1 := [(1, .int (xi (v1 + 1))), (0, .ref (ad 38))]) dX3_putFirst_34 rfl (by decide) rfl ?_
      refine xj_goto C (tgt := 10) dX3_putFirst_37 (by decide) ?_
      refine xj_loc C [1, 0] (L1 := [(0, .ref (ad 38)), (1, .int (xi (v1 + 1)))]) rfl ?_
      exact ih _ _ _ hM K
set_option maxRecDepth 100000 in
set_option maxHeartbeats 4000000 in
theorem j_X3_putFirst_L67 {l : Launch} {D : va_G} {k : Nat → ClassId} {ad : Nat → Nat} {o : xO} {X : xX} (C : xC D k o X cX3_putFirst 3 RX3 wsX3_putFirst none rmX3_putFirst) (p2 : Int) (S : xS) : ∀ (n : Nat) (v1 : Int) (r : Int), m_X3_putFirst_L67 p2 S n v1 = some r → (xJ l D k o X 3 89 [(0, .ref (ad 38)), (1, .int (xi r)), (2, .int (xi p2))] [] (wX ad k S)) → xJ l D k o X 3 67 [(0, .ref (ad 38)), (1, .int (xi v1)), (2, .int (xi p2))] [] (wX ad k S) := by
  intro n
  induction n with
  | zero =>
    intro v1 r hM
    cases hM
  | succ n ih =>
    intro v1 r hM K
    unfold m_X3_putFirst_L67 at hM
    refine xj_iload_n C 1 dX3_putFirst_67 rfl rfl ?_
    refine xj_bipush C (n := 16) (by decide) dX3_putFirst_68 ?_
    obtain ⟨g14, hM⟩ := xck_some hM
    refine xj_icmp_ge C (tgt := 89) dX3_putFirst_70 (by decide) ⟨g14, (by decide)⟩ (fun c15 => ?_) (fun c15 => ?_)
    · have hM := xit hM c15
      obtain rfl := Option.some.inj hM
      exact K
    · have hM := xif hM c15
      refine xj_aload_n C 0 dX3_putFirst_73 rfl rfl ?_
      refine xj_get C (fun _ h => List.mem_cons_of_mem _ (List.mem_append_left _ (List.mem_append_right _ h))) 38 (eX_38 ad k S) rfl 2 (by decide) (List.mem_of_getElem? (i := 1) rfl) (fun _ _ h => h) rfl dX3_putFirst_74 ?_
      refine xj_iload_n C 1 dX3_putFirst_77 rfl rfl ?_
      obtain ⟨g16, hM⟩ := xck_some hM
      refine xj_iald C 15 S 15 (eX_15 ad k S) (Nat.le_of_ble_eq_true rfl) g16 dX3_putFirst_78 ?_
      refine xj_iconst C dX3_putFirst_79 ?_
      obtain ⟨g17, hM⟩ := xck_some hM
      refine xj_icmp_eq C (tgt := 89) dX3_putFirst_80 (by decide) ⟨g17, (by decide)⟩ (fun c18 => ?_) (fun c18 => ?_)
      · have hM := xit hM c18
        obtain rfl := Option.some.inj hM
        exact K
      · have hM := xif hM c18
        refine xj_iinc C 1 (L1 := [(1, .int (xi (v1 + 1))), (0, .ref (ad 38)), (2, .int (xi p2))]) dX3_putFirst_83 rfl (by decide) rfl ?_
        refine xj_goto C (tgt := 67) dX3_putFirst_86 (by decide) ?_
        refine xj_loc C [1, 0, 2] (L1 := [(0, .ref (ad 38)), (1, .int (xi (v1 + 1))), (2, .int (xi p2))]) rfl ?_
        exact ih _ _ hM K
set_option maxRecDepth 100000 in
set_option maxHeartbeats 4000000 in
theorem j_X3_putFirst_L44 {l : Launch} {D : va_G} {k : Nat → ClassId} {ad : Nat → Nat} {o : xO} {X : xX} (C : xC D k o X cX3_putFirst 3 RX3 wsX3_putFirst none rmX3_putFirst) : ∀ (n : Nat) (v1 : Int) (v2 : Int) (S : xS) (r : xS), m_X3_putFirst_L44 n v1 v2 S = some r → (xJ l D k o X 3 101 [] [] (wX ad k r)) → xJ l D k o X 3 44 [(0, .ref (ad 38)), (1, .int (xi v1)), (2, .int (xi v2))] [] (wX ad k S) := by
  intro n
  induction n with
  | zero =>
    intro v1 v2 S r hM
    cases hM
  | succ n ih =>
    intro v1 v2 S r hM K
    unfold m_X3_putFirst_L44 at hM
    refine xj_iload_n C 2 dX3_putFirst_44 rfl rfl ?_
    refine xj_aload_n C 0 dX3_putFirst_45 rfl rfl ?_
    refine xj_get C (fun _ h => List.mem_cons_of_mem _ (List.mem_append_left _ (List.mem_append_right _ h))) 38 (eX_38 ad k S) rfl 0 (by decide) (List.mem_of_getElem? (i := 2) rfl) (fun _ _ h => h) rfl dX3_putFirst_46 ?_
    obtain ⟨r7, hRr7, hM⟩ := xbd hM
    refine xj_callV C [] [.int (xi v2)] 0 (c_X0_size hRr7) gX3_putFirst_X0_size rfl ⟨rfl, rfl⟩ hv_X0_size ⟨Nat.le_of_ble_eq_true rfl, Nat.le_of_ble_eq_true rfl⟩ 35 (eX_35 ad k _) rfl rfl (Nat.le_of_ble_eq_true rfl) dX3_putFirst_49 ?_
    obtain ⟨g8, hM⟩ := xck_some hM
    refine xj_icmp_ge C (tgt := 101) dX3_putFirst_52 (by decide) ⟨g8.1, g8.2⟩ (fun c9 => ?_) (fun c9 => ?_)
    · have hM := xit hM c9
      obtain rfl := Option.some.inj hM
      refine xj_loc C [] (L1 := []) rfl ?_
      exact K
    · have hM := xif hM c9
      refine xj_aload_n C 0 dX3_putFirst_55 rfl rfl ?_
      refine xj_get C (fun _ h => List.mem_cons_of_mem _ (List.mem_append_left _ (List.mem_append_right _ h))) 38 (eX_38 ad k S) rfl 0 (by decide) (List.mem_of_getElem? (i := 2) rfl) (fun _ _ h => h) rfl dX3_putFirst_56 ?_
      refine xj_iload_n C 2 dX3_putFirst_59 rfl rfl ?_
      obtain ⟨r10, hRr10, hM⟩ := xbd hM
      refine xj_callV C [.int (xi v2)] [] 1 (c_X0_fixedTile hRr10) gX3_putFirst_X0_fixedTile rfl ⟨rfl, rfl⟩ hv_X0_fixedTile ⟨Nat.le_of_ble_eq_true rfl, Nat.le_of_ble_eq_true rfl⟩ 35 (eX_35 ad k _) rfl rfl (Nat.le_of_ble_eq_true rfl) dX3_putFirst_60 ?_
      refine xj_iconst C dX3_putFirst_63 ?_
      obtain ⟨r11, hRr11, hM⟩ := xbd hM
      have Kr11 : xJ l D k o X 3 95 [(0, .ref (ad 38)), (1, .int (xi r11.1)), (2, .int (xi v2))] [] (wX ad k r11.2) := by
        refine xj_iinc C 2 (L1 := [(2, .int (xi (v2 + 1))), (0, .ref (ad 38)), (1, .int (xi r11.1))]) dX3_putFirst_95 rfl (by decide) rfl ?_
        refine xj_goto C (tgt := 44) dX3_putFirst_98 (by decide) ?_
        refine xj_loc C [1, 2, 0] (L1 := [(0, .ref (ad 38)), (1, .int (xi r11.1)), (2, .int (xi (v2 + 1)))]) rfl ?_
        exact ih _ _ _ _ hM K
      clear hM
      have hM := hRr11
      obtain ⟨g12, hM⟩ := xck_some hM
      refine xj_icmp_ne C (tgt := 95) dX3_putFirst_64 (by decide) ⟨g12, (by decide)⟩ (fun c13 => ?_) (fun c13 => ?_)
      · have hM := xif hM c13
        obtain rfl := Option.some.inj hM
        exact Kr11
      · have hM := xit hM c13
        obtain ⟨r19, hLr19, hM⟩ := xbd hM
        refine j_X3_putFirst_L67 C v2 S _ _ _ hLr19 ?_
        refine xj_aload_n C 0 dX3_putFirst_89 rfl rfl ?_
        refine xj_iload_n C 2 dX3_putFirst_90 rfl rfl ?_
        refine xj_iload_n C 1 dX3_putFirst_91 rfl rfl ?_
        obtain ⟨r20, hRr20, hM⟩ := xbd hM
        refine xj_callV C [.int (xi v2), .int (xi r19)] [] 2 (c_X3_put hRr20) gX3_putFirst_X3_put rfl ⟨rfl, rfl⟩ hv_X3_put ⟨Nat.le_of_ble_eq_true rfl, Nat.le_of_ble_eq_true rfl⟩ 38 (eX_38 ad k _) rfl rfl (Nat.le_of_ble_eq_true rfl) dX3_putFirst_92 ?_
        obtain rfl := Option.some.inj hM
        exact Kr11
set_option maxRecDepth 100000 in
set_option maxHeartbeats 4000000 in
theorem c_X3_putFirst {l : Launch} {D : va_G} {k : Nat → ClassId} {ad : Nat → Nat} {S : xS} {res : xS} (hM : m_X3_putFirst S = some res) : xM l yX3_putFirst wsX3_putFirst rmX3_putFirst D k [.ref (ad 38)] (wX ad k S) none (wX ad k res) := by
  refine xM_of (ret := none) (by decide) rfl (Nat.le_of_ble_eq_true rfl) (fun X C => ?_)
  have C : xC D k (xo X D k none (wX ad k res)) X cX3_putFirst 3 RX3 wsX3_putFirst none rmX3_putFirst := C
  show xJ l D k (xo X D k none (wX ad k res)) X 3 0 [(0, .ref (ad 38))] [] (wX ad k S)
  unfold m_X3_putFirst at hM
  refine xj_aload_n C 0 dX3_putFirst_0 rfl rfl ?_
  refine xj_get C (fun _ h => List.mem_cons_of_mem _ (List.mem_append_left _ (List.mem_append_right _ h))) 38 (eX_38 ad k S) rfl 2 (by decide) (List.mem_of_getElem? (i := 1) rfl) (fun _ _ h => h) rfl dX3_putFirst_1 ?_
  refine xj_iconst C dX3_putFirst_4 ?_
  refine xj_callS C [.ref (ad 15), .int (xi (-1))] [] 2 (c_fill (eX_15 ad k S) (Nat.le_of_ble_eq_true rfl) (fX_15 ad k S (-1))) gX3_putFirst_J7_fill_53178 rfl ⟨rfl, rfl⟩ hv_fill ⟨Nat.le_of_ble_eq_true rfl, Nat.le_of_ble_eq_true rfl⟩ rfl (Nat.le_of_ble_eq_true rfl) dX3_putFirst_5 ?_
  refine xj_iconst C dX3_putFirst_8 ?_
  refine xj_istore_n C (L1 := [(1, .int (xi 0)), (0, .ref (ad 38))]) dX3_putFirst_9 rfl (by decide) rfl ?_
  obtain ⟨r6, hLr6, hM⟩ := xbd hM
  refine xj_loc C [1, 0] (L1 := [(0, .ref (ad 38)), (1, .int (xi 0))]) rfl ?_
  refine j_X3_putFirst_L10 C _ _ _ _ hLr6 ?_
  refine xj_iconst C dX3_putFirst_40 ?_
  refine xj_istore_n C (L1 := [(1, .int (xi 0)), (0, .ref (ad 38))]) dX3_putFirst_41 rfl (by decide) rfl ?_
  refine xj_iconst C dX3_putFirst_42 ?_
  refine xj_istore_n C (L1 := [(2, .int (xi 0)), (1, .int (xi 0)), (0, .ref (ad 38))]) dX3_putFirst_43 rfl (by decide) rfl ?_
  obtain ⟨r21, hLr21, hM⟩ := xbd hM
  refine xj_loc C [2, 1, 0] (L1 := [(0, .ref (ad 38)), (1, .int (xi 0)), (2, .int (xi 0))]) rfl ?_
  refine j_X3_putFirst_L44 C _ _ _ _ _ hLr21 ?_
  obtain rfl := Option.some.inj hM
  exact xj_vret C rfl dX3_putFirst_101
def rmX3_place : Room := { frames := 5, cells := 0, slots := 0, locals := 122 }
theorem hv_X3_place : yX3_place.cls = RX3 ∧ yX3_place.cls ≠ "java/lang/invoke/MethodHandle" ∧ yX3_place.cls ≠ "java/lang/invoke/VarHandle" ∧ (parseMethodDescriptor yX3_place.desc).map (fun d => d.parameters.length) = some 0 := by decide +kernel
def m_X3_place_L11 : Nat → Int → Int → xS → Option (Int × xS)
  | 0, _, _, _ => none
  | n + 1, v1, v2, S => xck (xr v2) (if 20 ≤ v2 then some (v1, S) else (m_X3_goThrough v1 S).bind (fun r5 => xck (xr r5.1 ∧ xr v1) (if r5.1 = v1 then some (v1, r5.2) else m_X3_place_L11 n r5.1 (v2 + 1) r5.2)))
def m_X3_place (S : xS) : Option (Int × xS) := (m_X3_putFirst S).bind (fun r1 => (m_X3_sumOfSpans r1).bind (fun r2 => (m_X3_place_L11 2000 r2 0 r1).bind (fun r8 => some (r8.1, r8.2))))
set_option maxRecDepth 100000 in
set_option maxHeartbeats 4000000 in
theorem j_X3_place_L11 {l : Launch} {D : va_G} {k : Nat → ClassId} {ad : Nat → Nat} {o : xO} {X : xX} (C : xC D k o X cX3_place 4 RX3 wsX3_place (some .int) rmX3_place) : ∀ (n : Nat) (v1 : Int) (v2 : Int) (S : xS) (r : Int × xS), m_X3_place_L11 n v1 v2 S = some r → (xJ l D k o X 4 39 [(1, .int (xi r.1))] [] (wX ad k r.2)) → xJ l D k o X 4 11 [(0, .ref (ad 38)), (1, .int (xi v1)), (2, .int (xi v2))] [] (wX ad k S) := by
  intro n
  induction n with
  | zero =>
    intro v1 v2 S r hM
    cases hM
  | succ n ih =>
    intro v1 v2 S r hM K
    unfold m_X3_place_L11 at hM
    refine xj_iload_n C 2 dX3_place_11 rfl rfl ?_
    refine xj_bipush C (n := 20) (by decide) dX3_place_12 ?_
    obtain ⟨g3, hM⟩ := xck_some hM
    refine xj_icmp_ge C (tgt := 39) dX3_place_14 (by decide) ⟨g3, (by decide)⟩ (fun c4 => ?_) (fun c4 => ?_)
    · have hM := xit hM c4
      obtain rfl := Option.some.inj hM
      refine xj_loc C [1] (L1 := [(1, .int (xi v1))]) rfl ?_
      exact K
    · have hM := xif hM c4
      refine xj_aload_n C 0 dX3_place_17 rfl rfl ?_
      refine xj_iload_n C 1 dX3_place_18 rfl rfl ?_
      obtain ⟨r5, hRr5, hM⟩ := xbd hM
      refine xj_callV C [.int (xi v1)] [] 1 (c_X3_goThrough hRr5) gX3_place_X3_goThrough rfl ⟨rfl, rfl⟩ hv_X3_goThrough ⟨Nat.le_of_ble_eq_true rfl, Nat.le_of_ble_eq_true rfl⟩ 38 (eX_38 ad k _) rfl rfl (Nat.le_of_ble_eq_true rfl) dX3_place_19 ?_
      refine xj_istore_n C (L1 := [(3, .int (xi r5.1)), (0, .ref (ad 38)), (1, .int (xi v1)), (2, .int (xi v2))]) dX3_place_22 rfl (by decide) rfl ?_
      refine xj_iload_n C 0 dX3_place_23 rfl rfl ?_
      refine xj_iload_n C 2 dX3_place_24 rfl rfl ?_
      obtain ⟨g6, hM⟩ := xck_some hM
      refine xj_icmp_ne C (tgt := 31) dX3_place_25 (by decide) ⟨g6.1, g6.2⟩ (fun c7 => ?_) (fun c7 => ?_)
      · have hM := xif hM c7
        refine xj_iload_n C 0 dX3_place_31 rfl rfl ?_
        refine xj_istore_n C (L1 := [(1, .int (xi r5.1)), (3, .int (xi r5.1)), (0, .ref (ad 38)), (2, .int (xi v2))]) dX3_place_32 rfl (by decide) rfl ?_
        refine xj_iinc C 3 (L1 := [(2, .int (xi (v2 + 1))), (1, .int (xi r5.1)), (3, .int (xi r5.1)), (0, .ref (ad 38))]) dX3_place_33 rfl (by decide) rfl ?_
        refine xj_goto C (tgt := 11) dX3_place_36 (by decide) ?_
        refine xj_loc C [3, 1, 0] (L1 := [(0, .ref (ad 38)), (1, .int (xi r5.1)), (2, .int (xi (v2 + 1)))]) rfl ?_
        exact ih _ _ _ _ hM K
      · have hM := xit hM c7
        refine xj_goto C (tgt := 39) dX3_place_28 (by decide) ?_
        obtain rfl := Option.some.inj hM
        refine xj_loc C [2] (L1 := [(1, .int (xi v1))]) rfl ?_
        exact K
set_option maxRecDepth 100000 in
set_option maxHeartbeats 4000000 in
theorem c_X3_place {l : Launch} {D : va_G} {k : Nat → ClassId} {ad : Nat → Nat} {S : xS} {res : Int × xS} (hM : m_X3_place S = some res) : xM l yX3_place wsX3_place rmX3_place D k [.ref (ad 38)] (wX ad k S) (some (.int (xi res.1))) (wX ad k res.2) := by
  refine xM_of (ret := (some .int)) (by decide) rfl (Nat.le_of_ble_eq_true rfl) (fun X C => ?_)
  have C : xC D k (xo X D k (some (.int (xi res.1))) (wX ad k res.2)) X cX3_place 4 RX3 wsX3_place (some .int) rmX3_place := C
  show xJ l D k (xo X D k (some (.int (xi res.1))) (wX ad k res.2)) X 4 0 [(0, .ref (ad 38))] [] (wX ad k S)
  unfold m_X3_place at hM
  refine xj_aload_n C 0 dX3_place_0 rfl rfl ?_
  obtain ⟨r1, hRr1, hM⟩ := xbd hM
  refine xj_callV C [] [] 0 (c_X3_putFirst hRr1) gX3_place_X3_putFirst rfl ⟨rfl, rfl⟩ hv_X3_putFirst ⟨Nat.le_of_ble_eq_true rfl, Nat.le_of_ble_eq_true rfl⟩ 38 (eX_38 ad k _) rfl rfl (Nat.le_of_ble_eq_true rfl) dX3_place_1 ?_
  refine xj_aload_n C 0 dX3_place_4 rfl rfl ?_
  obtain ⟨r2, hRr2, hM⟩ := xbd hM
  refine xj_callV C [] [] 0 (c_X3_sumOfSpans hRr2) gX3_place_X3_sumOfSpans rfl ⟨rfl, rfl⟩ hv_X3_sumOfSpans ⟨Nat.le_of_ble_eq_true rfl, Nat.le_of_ble_eq_true rfl⟩ 38 (eX_38 ad k _) rfl rfl (Nat.le_of_ble_eq_true rfl) dX3_place_5 ?_
  refine xj_istore_n C (L1 := [(1, .int (xi r2)), (0, .ref (ad 38))]) dX3_place_8 rfl (by decide) rfl ?_
  refine xj_iconst C dX3_place_9 ?_
  refine xj_istore_n C (L1 := [(2, .int (xi 0)), (1, .int (xi r2)), (0, .ref (ad 38))]) dX3_place_10 rfl (by decide) rfl ?_
  obtain ⟨r8, hLr8, hM⟩ := xbd hM
  refine xj_loc C [2, 1, 0] (L1 := [(0, .ref (ad 38)), (1, .int (xi r2)), (2, .int (xi 0))]) rfl ?_
  refine j_X3_place_L11 C _ _ _ _ _ hLr8 ?_
  refine xj_iload_n C 0 dX3_place_39 rfl rfl ?_
  obtain rfl := Option.some.inj hM
  exact xj_iret C rfl dX3_place_40
