/-! mirrors and contracts (by program: wip/whole/gen.py, mkparts.py) -/
def rmX9_lies : Room := { frames := 0, cells := 0, slots := 0, locals := 0 }
theorem hv_X9_lies : yX9_lies.cls = RX9 ∧ yX9_lies.cls ≠ "java/lang/invoke/MethodHandle" ∧ yX9_lies.cls ≠ "java/lang/invoke/VarHandle" ∧ (parseMethodDescriptor yX9_lies.desc).map (fun d => d.parameters.length) = some 2 := by decide +kernel
def m_X9_lies (p1 : Int) (p2 : Int) (S : xS) : Option (Int) := (xck (xr p1) (if 10 ≤ p1 then some 0 else xck (0 ≤ p1 ∧ p1 < 10) (some (S 13 p1)))).bind (fun r1 => xck (xr p1) (if 10 ≤ p1 then xck (xr p2) (if p2 = 0 then (if 14 ≤ p1 then some 3 else some 0) else xck (0 ≤ (p1 - 10) ∧ (p1 - 10) ≤ 2147483647) (some ((p1 - 10) % 4))) else xck (xr p2) (if p2 = 0 then xck (0 ≤ r1 ∧ r1 ≤ 2147483647) (some (r1 % 4)) else xck (0 ≤ r1 ∧ r1 ≤ 2147483647) (some (r1 / 4)))))
set_option maxRecDepth 100000 in
set_option maxHeartbeats 4000000 in
theorem c_X9_lies {l : Launch} {D : va_G} {k : Nat → ClassId} {ad : Nat → Nat} {S : xS} {p1 : Int} {p2 : Int} {res : Int} (hM : m_X9_lies p1 p2 S = some res) : xM l yX9_lies wsX9_lies rmX9_lies D k [.ref (ad 24), .int (xi p1), .int (xi p2)] (wY ad k S) (some (.int (xi res))) (wY ad k S) := by
  refine xM_of (ret := (some .int)) (by decide) rfl (Nat.le_of_ble_eq_true rfl) (fun X C => ?_)
  have C : xC D k (xo X D k (some (.int (xi res))) (wY ad k S)) X cX9_lies 4 RX9 wsX9_lies (some .int) rmX9_lies := C
  show xJ l D k (xo X D k (some (.int (xi res))) (wY ad k S)) X 4 0 [(0, .ref (ad 24)), (1, .int (xi p1)), (2, .int (xi p2))] [] (wY ad k S)
  unfold m_X9_lies at hM
  refine xj_iload_n C 1 dX9_lies_0 rfl rfl ?_
  refine xj_bipush C (n := 10) (by decide) dX9_lies_1 ?_
  obtain ⟨r1, hRr1, hM⟩ := xbd hM
  have Kr1 : xJ l D k (xo X D k (some (.int (xi res))) (wY ad k S)) X 4 16 [(1, .int (xi p1)), (2, .int (xi p2))] [.int (xi r1)] (wY ad k S) := by
    refine xj_istore_n C (L1 := [(3, .int (xi r1)), (1, .int (xi p1)), (2, .int (xi p2))]) dX9_lies_16 rfl (by decide) rfl ?_
    refine xj_iload_n C 1 dX9_lies_17 rfl rfl ?_
    refine xj_bipush C (n := 10) (by decide) dX9_lies_18 ?_
    obtain ⟨g5, hM⟩ := xck_some hM
    refine xj_icmp_ge C (tgt := 37) dX9_lies_20 (by decide) ⟨g5, (by decide)⟩ (fun c6 => ?_) (fun c6 => ?_)
    · have hM := xit hM c6
      refine xj_iload_n C 2 dX9_lies_37 rfl rfl ?_
      obtain ⟨g7, hM⟩ := xck_some hM
      refine xj_if_eq C (tgt := 50) dX9_lies_38 (by decide) g7 (fun c8 => ?_) (fun c8 => ?_)
      · have hM := xit hM c8
        refine xj_iload_n C 1 dX9_lies_50 rfl rfl ?_
        refine xj_bipush C (n := 14) (by decide) dX9_lies_51 ?_
        refine xj_icmp_ge C (tgt := 60) dX9_lies_53 (by decide) ⟨g5, (by decide)⟩ (fun c9 => ?_) (fun c9 => ?_)
        · have hM := xit hM c9
          refine xj_iconst C dX9_lies_60 ?_
          obtain rfl := Option.some.inj hM
          exact xj_iret C rfl dX9_lies_61
        · have hM := xif hM c9
          refine xj_iconst C dX9_lies_56 ?_
          refine xj_goto C (tgt := 61) dX9_lies_57 (by decide) ?_
          obtain rfl := Option.some.inj hM
          exact xj_iret C rfl dX9_lies_61
      · have hM := xif hM c8
        refine xj_iload_n C 1 dX9_lies_41 rfl rfl ?_
        refine xj_bipush C (n := 10) (by decide) dX9_lies_42 ?_
        refine xj_isub C dX9_lies_44 ?_
        refine xj_iconst C dX9_lies_45 ?_
        obtain ⟨g10, hM⟩ := xck_some hM
        refine xj_irem C ⟨g10.1, g10.2, by decide, by decide⟩ dX9_lies_46 ?_
        refine xj_goto C (tgt := 61) dX9_lies_47 (by decide) ?_
        obtain rfl := Option.some.inj hM
        exact xj_iret C rfl dX9_lies_61
    · have hM := xif hM c6
      refine xj_iload_n C 2 dX9_lies_23 rfl rfl ?_
      obtain ⟨g11, hM⟩ := xck_some hM
      refine xj_if_eq C (tgt := 33) dX9_lies_24 (by decide) g11 (fun c12 => ?_) (fun c12 => ?_)
      · have hM := xit hM c12
        refine xj_iload_n C 0 dX9_lies_33 rfl rfl ?_
        refine xj_iconst C dX9_lies_34 ?_
        obtain ⟨g13, hM⟩ := xck_some hM
        refine xj_irem C ⟨g13.1, g13.2, by decide, by decide⟩ dX9_lies_35 ?_
        obtain rfl := Option.some.inj hM
        exact xj_iret C rfl dX9_lies_36
      · have hM := xif hM c12
        refine xj_iload_n C 0 dX9_lies_27 rfl rfl ?_
        refine xj_iconst C dX9_lies_28 ?_
        obtain ⟨g14, hM⟩ := xck_some hM
        refine xj_idiv C ⟨g14.1, g14.2, by decide, by decide⟩ dX9_lies_29 ?_
        refine xj_goto C (tgt := 36) dX9_lies_30 (by decide) ?_
        obtain rfl := Option.some.inj hM
        exact xj_iret C rfl dX9_lies_36
  clear hM
  have hM := hRr1
  obtain ⟨g2, hM⟩ := xck_some hM
  refine xj_icmp_ge C (tgt := 15) dX9_lies_3 (by decide) ⟨g2, (by decide)⟩ (fun c3 => ?_) (fun c3 => ?_)
  · have hM := xit hM c3
    refine xj_iconst C dX9_lies_15 ?_
    obtain rfl := Option.some.inj hM
    refine xj_loc C [1, 2] (L1 := [(1, .int (xi p1)), (2, .int (xi p2))]) rfl ?_
    exact Kr1
  · have hM := xif hM c3
    refine xj_aload_n C 0 dX9_lies_6 rfl rfl ?_
    refine xj_get C (fun _ h => List.mem_cons_of_mem _ (List.mem_append_right _ h)) 24 (eY_24 ad k S) rfl 16 (by decide) (List.mem_of_getElem? (i := 1) rfl) (fun _ _ h => h) rfl dX9_lies_7 ?_
    refine xj_iload_n C 1 dX9_lies_10 rfl rfl ?_
    obtain ⟨g4, hM⟩ := xck_some hM
    refine xj_iald C 13 S 13 (eY_13 ad k S) (Nat.le_of_ble_eq_true rfl) g4 dX9_lies_11 ?_
    refine xj_goto C (tgt := 16) dX9_lies_12 (by decide) ?_
    obtain rfl := Option.some.inj hM
    refine xj_loc C [1, 2] (L1 := [(1, .int (xi p1)), (2, .int (xi p2))]) rfl ?_
    exact Kr1
def rmX9_span : Room := { frames := 1, cells := 0, slots := 0, locals := 23 }
theorem hv_X9_span : yX9_span.cls = RX9 ∧ yX9_span.cls ≠ "java/lang/invoke/MethodHandle" ∧ yX9_span.cls ≠ "java/lang/invoke/VarHandle" ∧ (parseMethodDescriptor yX9_span.desc).map (fun d => d.parameters.length) = some 2 := by decide +kernel
def m_X9_span_L13 (p1 : Int) (p2 : Int) (S : xS) : Nat → Int → Int → Int → Option (Int × Int)
  | 0, _, _, _ => none
  | n + 1, v3, v4, v5 => xck (xr v5) (if 34 ≤ v5 then some (v3, v4) else xck (0 ≤ v5 ∧ v5 < 34) ((xck (xr (S 11 v5) ∧ xr p1) (if (S 11 v5) = p1 then ((if 30 ≤ v5 then some ((14 + v5) - 30) else xck (0 ≤ v5 ∧ v5 ≤ 2147483647) (some (v5 / 3)))).bind (fun r8 => (m_X9_lies r8 p2 S).bind (fun r11 => (xck (xr r11 ∧ xr v3) (if v3 ≤ r11 then some v3 else some r11)).bind (fun r12 => (xck (xr r11 ∧ xr v4) (if r11 ≤ v4 then some v4 else some r11)).bind (fun r15 => some (r12, r15))))) else some (v3, v4))).bind (fun r5 => m_X9_span_L13 p1 p2 S n r5.1 r5.2 (v5 + 1))))
def m_X9_span (p1 : Int) (p2 : Int) (S : xS) : Option (Int) := (m_X9_lies p1 p2 S).bind (fun r1 => (m_X9_span_L13 p1 p2 S 2000 r1 r1 0).bind (fun r18 => some (r18.2 - r18.1)))
set_option maxRecDepth 100000 in
set_option maxHeartbeats 4000000 in
theorem j_X9_span_L13 {l : Launch} {D : va_G} {k : Nat → ClassId} {ad : Nat → Nat} {o : xO} {X : xX} (C : xC D k o X cX9_span 7 RX9 wsX9_span (some .int) rmX9_span) (p1 : Int) (p2 : Int) (S : xS) : ∀ (n : Nat) (v3 : Int) (v4 : Int) (v5 : Int) (r : Int × Int), m_X9_span_L13 p1 p2 S n v3 v4 v5 = some r → (xJ l D k o X 7 95 [(3, .int (xi r.1)), (4, .int (xi r.2))] [] (wY ad k S)) → xJ l D k o X 7 13 [(0, .ref (ad 24)), (1, .int (xi p1)), (2, .int (xi p2)), (3, .int (xi v3)), (4, .int (xi v4)), (5, .int (xi v5))] [] (wY ad k S) := by
  intro n
  induction n with
  | zero =>
    intro v3 v4 v5 r hM
    cases hM
  | succ n ih =>
    intro v3 v4 v5 r hM K
    unfold m_X9_span_L13 at hM
    refine xj_iload C 5 dX9_span_13 rfl ?_
    refine xj_bipush C (n := 34) (by decide) dX9_span_15 ?_
    obtain ⟨g2, hM⟩ := xck_some hM
    refine xj_icmp_ge C (tgt := 95) dX9_span_17 (by decide) ⟨g2, (by decide)⟩ (fun c3 => ?_) (fun c3 => ?_)
    · have hM := xit hM c3
      obtain rfl := Option.some.inj hM
      refine xj_loc C [3, 4] (L1 := [(3, .int (xi v3)), (4, .int (xi v4))]) rfl ?_
      exact K
    · have hM := xif hM c3
      refine xj_aload_n C 0 dX9_span_20 rfl rfl ?_
      refine xj_get C (fun _ h => List.mem_cons_of_mem _ (List.mem_append_right _ h)) 24 (eY_24 ad k S) rfl 12 (by decide) (List.mem_of_getElem? (i := 1) rfl) (fun _ _ h => h) rfl dX9_span_21 ?_
      refine xj_iload C 5 dX9_span_24 rfl ?_
      obtain ⟨g4, hM⟩ := xck_some hM
      refine xj_iald C 11 S 11 (eY_11 ad k S) (Nat.le_of_ble_eq_true rfl) g4 dX9_span_26 ?_
      refine xj_iload_n C 1 dX9_span_27 rfl rfl ?_
      obtain ⟨r5, hRr5, hM⟩ := xbd hM
      have Kr5 : xJ l D k o X 7 89 [(0, .ref (ad 24)), (1, .int (xi p1)), (2, .int (xi p2)), (3, .int (xi r5.1)), (4, .int (xi r5.2)), (5, .int (xi v5))] [] (wY ad k S) := by
        refine xj_iinc C 5 (L1 := [(5, .int (xi (v5 + 1))), (0, .ref (ad 24)), (1, .int (xi p1)), (2, .int (xi p2)), (3, .int (xi r5.1)), (4, .int (xi r5.2))]) dX9_span_89 rfl (by decide) rfl ?_
        refine xj_goto C (tgt := 13) dX9_span_92 (by decide) ?_
        refine xj_loc C [1, 2, 3, 4, 5, 0] (L1 := [(0, .ref (ad 24)), (1, .int (xi p1)), (2, .int (xi p2)), (3, .int (xi r5.1)), (4, .int (xi r5.2)), (5, .int (xi (v5 + 1)))]) rfl ?_
        exact ih _ _ _ _ hM K
      clear hM
      have hM := hRr5
      obtain ⟨g6, hM⟩ := xck_some hM
      refine xj_icmp_ne C (tgt := 89) dX9_span_28 (by decide) ⟨g6.1, g6.2⟩ (fun c7 => ?_) (fun c7 => ?_)
      · have hM := xif hM c7
        obtain rfl := Option.some.inj hM
        exact Kr5
      · have hM := xit hM c7
        refine xj_aload_n C 0 dX9_span_31 rfl rfl ?_
        refine xj_iload C 5 dX9_span_32 rfl ?_
        refine xj_bipush C (n := 30) (by decide) dX9_span_34 ?_
        obtain ⟨r8, hRr8, hM⟩ := xbd hM
        have Kr8 : xJ l D k o X 7 54 [(0, .ref (ad 24)), (1, .int (xi p1)), (2, .int (xi p2)), (3, .int (xi v3)), (4, .int (xi v4)), (5, .int (xi v5))] [.int (xi r8), .ref (ad 24)] (wY ad k S) := by
          refine xj_iload_n C 2 dX9_span_54 rfl rfl ?_
          obtain ⟨r11, hRr11, hM⟩ := xbd hM
          refine xj_callV C [.int (xi r8), .int (xi p2)] [] 2 (c_X9_lies hRr11) gX9_span_X9_lies rfl ⟨rfl, rfl⟩ hv_X9_lies ⟨Nat.le_of_ble_eq_true rfl, Nat.le_of_ble_eq_true rfl⟩ 24 (eY_24 ad k _) rfl rfl (Nat.le_of_ble_eq_true rfl) dX9_span_55 ?_
          refine xj_istore C (L1 := [(6, .int (xi r11)), (0, .ref (ad 24)), (1, .int (xi p1)), (2, .int (xi p2)), (3, .int (xi v3)), (4, .int (xi v4)), (5, .int (xi v5))]) dX9_span_58 (by decide) rfl ?_
          refine xj_iload C 0 dX9_span_60 rfl ?_
          refine xj_iload_n C 4 dX9_span_62 rfl rfl ?_
          obtain ⟨r12, hRr12, hM⟩ := xbd hM
          have Kr12 : xJ l D k o X 7 72 [(0, .ref (ad 24)), (1, .int (xi p1)), (2, .int (xi p2)), (4, .int (xi v4)), (5, .int (xi v5)), (6, .int (xi r11))] [.int (xi r12)] (wY ad k S) := by
            refine xj_istore_n C (L1 := [(3, .int (xi r12)), (0, .ref (ad 24)), (1, .int (xi p1)), (2, .int (xi p2)), (4, .int (xi v4)), (5, .int (xi v5)), (6, .int (xi r11))]) dX9_span_72 rfl (by decide) rfl ?_
            refine xj_iload C 6 dX9_span_73 rfl ?_
            refine xj_iload C 4 dX9_span_75 rfl ?_
            obtain ⟨r15, hRr15, hM⟩ := xbd hM
            have Kr15 : xJ l D k o X 7 87 [(0, .ref (ad 24)), (1, .int (xi p1)), (2, .int (xi p2)), (3, .int (xi r12)), (5, .int (xi v5))] [.int (xi r15)] (wY ad k S) := by
              refine xj_istore C (L1 := [(4, .int (xi r15)), (0, .ref (ad 24)), (1, .int (xi p1)), (2, .int (xi p2)), (3, .int (xi r12)), (5, .int (xi v5))]) dX9_span_87 (by decide) rfl ?_
              obtain rfl := Option.some.inj hM
              refine xj_loc C [1, 2, 3, 4, 0, 5] (L1 := [(0, .ref (ad 24)), (1, .int (xi p1)), (2, .int (xi p2)), (3, .int (xi r12)), (4, .int (xi r15)), (5, .int (xi v5))]) rfl ?_
              exact Kr5
            clear hM
            have hM := hRr15
            obtain ⟨g16, hM⟩ := xck_some hM
            refine xj_icmp_le C (tgt := 85) dX9_span_77 (by decide) ⟨g16.1, g16.2⟩ (fun c17 => ?_) (fun c17 => ?_)
            · have hM := xit hM c17
              refine xj_iload C 4 dX9_span_85 rfl ?_
              obtain rfl := Option.some.inj hM
              refine xj_loc C [1, 2, 3, 0, 5] (L1 := [(0, .ref (ad 24)), (1, .int (xi p1)), (2, .int (xi p2)), (3, .int (xi r12)), (5, .int (xi v5))]) rfl ?_
              exact Kr15
            · have hM := xif hM c17
              refine xj_iload C 6 dX9_span_80 rfl ?_
              refine xj_goto C (tgt := 87) dX9_span_82 (by decide) ?_
              obtain rfl := Option.some.inj hM
              refine xj_loc C [1, 2, 3, 0, 5] (L1 := [(0, .ref (ad 24)), (1, .int (xi p1)), (2, .int (xi p2)), (3, .int (xi r12)), (5, .int (xi v5))]) rfl ?_
              exact Kr15
          clear hM
          have hM := hRr12
          obtain ⟨g13, hM⟩ := xck_some hM
          refine xj_icmp_ge C (tgt := 71) dX9_span_63 (by decide) ⟨g13.1, g13.2⟩ (fun c14 => ?_) (fun c14 => ?_)
          · have hM := xit hM c14
            refine xj_iload_n C 4 dX9_span_71 rfl rfl ?_
            obtain rfl := Option.some.inj hM
            refine xj_loc C [1, 2, 3, 5, 6, 0] (L1 := [(0, .ref (ad 24)), (1, .int (xi p1)), (2, .int (xi p2)), (4, .int (xi v4)), (5, .int (xi v5)), (6, .int (xi r11))]) rfl ?_
            exact Kr12
          · have hM := xif hM c14
            refine xj_iload C 0 dX9_span_66 rfl ?_
            refine xj_goto C (tgt := 72) dX9_span_68 (by decide) ?_
            obtain rfl := Option.some.inj hM
            refine xj_loc C [1, 2, 3, 5, 6, 0] (L1 := [(0, .ref (ad 24)), (1, .int (xi p1)), (2, .int (xi p2)), (4, .int (xi v4)), (5, .int (xi v5)), (6, .int (xi r11))]) rfl ?_
            exact Kr12
        clear hM
        have hM := hRr8
        refine xj_icmp_ge C (tgt := 46) dX9_span_36 (by decide) ⟨g2, (by decide)⟩ (fun c9 => ?_) (fun c9 => ?_)
        · have hM := xit hM c9
          refine xj_bipush C (n := 14) (by decide) dX9_span_46 ?_
          refine xj_iload C 5 dX9_span_48 rfl ?_
          refine xj_iadd C dX9_span_50 ?_
          refine xj_bipush C (n := 30) (by decide) dX9_span_51 ?_
          refine xj_isub C dX9_span_53 ?_
          obtain rfl := Option.some.inj hM
          exact Kr8
        · have hM := xif hM c9
          refine xj_iload C 5 dX9_span_39 rfl ?_
          refine xj_iconst C dX9_span_41 ?_
          obtain ⟨g10, hM⟩ := xck_some hM
          refine xj_idiv C ⟨g10.1, g10.2, by decide, by decide⟩ dX9_span_42 ?_
          refine xj_goto C (tgt := 54) dX9_span_43 (by decide) ?_
          obtain rfl := Option.some.inj hM
          exact Kr8
set_option maxRecDepth 100000 in
set_option maxHeartbeats 4000000 in
theorem c_X9_span {l : Launch} {D : va_G} {k : Nat → ClassId} {ad : Nat → Nat} {S : xS} {p1 : Int} {p2 : Int} {res : Int} (hM : m_X9_span p1 p2 S = some res) : xM l yX9_span wsX9_span rmX9_span D k [.ref (ad 24), .int (xi p1), .int (xi p2)] (wY ad k S) (some (.int (xi res))) (wY ad k S) := by
  refine xM_of (ret := (some .int)) (by decide) rfl (Nat.le_of_ble_eq_true rfl) (fun X C => ?_)
  have C : xC D k (xo X D k (some (.int (xi res))) (wY ad k S)) X cX9_span 7 RX9 wsX9_span (some .int) rmX9_span := C
  show xJ l D k (xo X D k (some (.int (xi res))) (wY ad k S)) X 7 0 [(0, .ref (ad 24)), (1, .int (xi p1)), (2, .int (xi p2))] [] (wY ad k S)
  unfold m_X9_span at hM
  refine xj_aload_n C 0 dX9_span_0 rfl rfl ?_
  refine xj_iload_n C 1 dX9_span_1 rfl rfl ?_
  refine xj_iload_n C 2 dX9_span_2 rfl rfl ?_
  obtain ⟨r1, hRr1, hM⟩ := xbd hM
  refine xj_callV C [.int (xi p1), .int (xi p2)] [] 2 (c_X9_lies hRr1) gX9_span_X9_lies rfl ⟨rfl, rfl⟩ hv_X9_lies ⟨Nat.le_of_ble_eq_true rfl, Nat.le_of_ble_eq_true rfl⟩ 24 (eY_24 ad k _) rfl rfl (Nat.le_of_ble_eq_true rfl) dX9_span_3 ?_
  refine xj_istore_n C (L1 := [(3, .int (xi r1)), (0, .ref (ad 24)), (1, .int (xi p1)), (2, .int (xi p2))]) dX9_span_6 rfl (by decide) rfl ?_
  refine xj_iload_n C 0 dX9_span_7 rfl rfl ?_
  refine xj_istore C (L1 := [(4, .int (xi r1)), (3, .int (xi r1)), (0, .ref (ad 24)), (1, .int (xi p1)), (2, .int (xi p2))]) dX9_span_8 (by decide) rfl ?_
  refine xj_iconst C dX9_span_10 ?_
  refine xj_istore C (L1 := [(5, .int (xi 0)), (4, .int (xi r1)), (3, .int (xi r1)), (0, .ref (ad 24)), (1, .int (xi p1)), (2, .int (xi p2))]) dX9_span_11 (by decide) rfl ?_
  obtain ⟨r18, hLr18, hM⟩ := xbd hM
  refine xj_loc C [3, 4, 5, 2, 1, 0] (L1 := [(0, .ref (ad 24)), (1, .int (xi p1)), (2, .int (xi p2)), (3, .int (xi r1)), (4, .int (xi r1)), (5, .int (xi 0))]) rfl ?_
  refine j_X9_span_L13 C p1 p2 S _ _ _ _ _ hLr18 ?_
  refine xj_iload C 1 dX9_span_95 rfl ?_
  refine xj_iload_n C 0 dX9_span_97 rfl rfl ?_
  refine xj_isub C dX9_span_98 ?_
  obtain rfl := Option.some.inj hM
  exact xj_iret C rfl dX9_span_99
def rmX9_hasSinks : Room := { frames := 0, cells := 0, slots := 0, locals := 0 }
theorem hv_X9_hasSinks : yX9_hasSinks.cls = RX9 ∧ yX9_hasSinks.cls ≠ "java/lang/invoke/MethodHandle" ∧ yX9_hasSinks.cls ≠ "java/lang/invoke/VarHandle" ∧ (parseMethodDescriptor yX9_hasSinks.desc).map (fun d => d.parameters.length) = some 1 := by decide +kernel
def m_X9_hasSinks_L4 (p1 : Int) (S : xS) : Nat → Int → Int → Option (Int)
  | 0, _, _ => none
  | n + 1, v2, v3 => xck (xr v3) (if 34 ≤ v3 then some v2 else (xck (xr v2) (if v2 = 0 then xck (0 ≤ v3 ∧ v3 < 34) (xck (xr (S 11 v3) ∧ xr p1) (if (S 11 v3) = p1 then some 1 else some 0)) else some 1)).bind (fun r3 => m_X9_hasSinks_L4 p1 S n r3 (v3 + 1)))
def m_X9_hasSinks (p1 : Int) (S : xS) : Option (Int) := (m_X9_hasSinks_L4 p1 S 2000 0 0).bind (fun r9 => xck (r9 = 0 ∨ r9 = 1) (some r9))
set_option maxRecDepth 100000 in
set_option maxHeartbeats 4000000 in
theorem j_X9_hasSinks_L4 {l : Launch} {D : va_G} {k : Nat → ClassId} {ad : Nat → Nat} {o : xO} {X : xX} (C : xC D k o X cX9_hasSinks 4 RX9 wsX9_hasSinks (some .boolean) rmX9_hasSinks) (p1 : Int) (S : xS) : ∀ (n : Nat) (v2 : Int) (v3 : Int) (r : Int), m_X9_hasSinks_L4 p1 S n v2 v3 = some r → (xJ l D k o X 4 36 [(2, .int (xi r))] [] (wY ad k S)) → xJ l D k o X 4 4 [(0, .ref (ad 24)), (1, .int (xi p1)), (2, .int (xi v2)), (3, .int (xi v3))] [] (wY ad k S) := by
  intro n
  induction n with
  | zero =>
    intro v2 v3 r hM
    cases hM
  | succ n ih =>
    intro v2 v3 r hM K
    unfold m_X9_hasSinks_L4 at hM
    refine xj_iload_n C 3 dX9_hasSinks_4 rfl rfl ?_
    refine xj_bipush C (n := 34) (by decide) dX9_hasSinks_5 ?_
    obtain ⟨g1, hM⟩ := xck_some hM
    refine xj_icmp_ge C (tgt := 36) dX9_hasSinks_7 (by decide) ⟨g1, (by decide)⟩ (fun c2 => ?_) (fun c2 => ?_)
    · have hM := xit hM c2
      obtain rfl := Option.some.inj hM
      refine xj_loc C [2] (L1 := [(2, .int (xi v2))]) rfl ?_
      exact K
    · have hM := xif hM c2
      refine xj_iload_n C 2 dX9_hasSinks_10 rfl rfl ?_
      obtain ⟨r3, hRr3, hM⟩ := xbd hM
      have Kr3 : xJ l D k o X 4 29 [(0, .ref (ad 24)), (1, .int (xi p1)), (3, .int (xi v3))] [.int (xi r3)] (wY ad k S) := by
        refine xj_istore_n C (L1 := [(2, .int (xi r3)), (0, .ref (ad 24)), (1, .int (xi p1)), (3, .int (xi v3))]) dX9_hasSinks_29 rfl (by decide) rfl ?_
        refine xj_iinc C 3 (L1 := [(3, .int (xi (v3 + 1))), (2, .int (xi r3)), (0, .ref (ad 24)), (1, .int (xi p1))]) dX9_hasSinks_30 rfl (by decide) rfl ?_
        refine xj_goto C (tgt := 4) dX9_hasSinks_33 (by decide) ?_
        refine xj_loc C [2, 3, 1, 0] (L1 := [(0, .ref (ad 24)), (1, .int (xi p1)), (2, .int (xi r3)), (3, .int (xi (v3 + 1)))]) rfl ?_
        exact ih _ _ _ hM K
      clear hM
      have hM := hRr3
      obtain ⟨g4, hM⟩ := xck_some hM
      refine xj_if_ne C (tgt := 24) dX9_hasSinks_11 (by decide) g4 (fun c5 => ?_) (fun c5 => ?_)
      · have hM := xif hM c5
        refine xj_iconst C dX9_hasSinks_24 ?_
        refine xj_goto C (tgt := 29) dX9_hasSinks_25 (by decide) ?_
        obtain rfl := Option.some.inj hM
        refine xj_loc C [0, 1, 3] (L1 := [(0, .ref (ad 24)), (1, .int (xi p1)), (3, .int (xi v3))]) rfl ?_
        exact Kr3
      · have hM := xit hM c5
        refine xj_aload_n C 0 dX9_hasSinks_14 rfl rfl ?_
        refine xj_get C (fun _ h => List.mem_cons_of_mem _ (List.mem_append_right _ h)) 24 (eY_24 ad k S) rfl 12 (by decide) (List.mem_of_getElem? (i := 1) rfl) (fun _ _ h => h) rfl dX9_hasSinks_15 ?_
        refine xj_iload_n C 3 dX9_hasSinks_18 rfl rfl ?_
        obtain ⟨g6, hM⟩ := xck_some hM
        refine xj_iald C 11 S 11 (eY_11 ad k S) (Nat.le_of_ble_eq_true rfl) g6 dX9_hasSinks_19 ?_
        refine xj_iload_n C 1 dX9_hasSinks_20 rfl rfl ?_
        obtain ⟨g7, hM⟩ := xck_some hM
        refine xj_icmp_ne C (tgt := 28) dX9_hasSinks_21 (by decide) ⟨g7.1, g7.2⟩ (fun c8 => ?_) (fun c8 => ?_)
        · have hM := xif hM c8
          refine xj_iconst C dX9_hasSinks_28 ?_
          obtain rfl := Option.some.inj hM
          refine xj_loc C [0, 1, 3] (L1 := [(0, .ref (ad 24)), (1, .int (xi p1)), (3, .int (xi v3))]) rfl ?_
          exact Kr3
        · have hM := xit hM c8
          refine xj_iconst C dX9_hasSinks_24 ?_
          refine xj_goto C (tgt := 29) dX9_hasSinks_25 (by decide) ?_
          obtain rfl := Option.some.inj hM
          refine xj_loc C [0, 1, 3] (L1 := [(0, .ref (ad 24)), (1, .int (xi p1)), (3, .int (xi v3))]) rfl ?_
          exact Kr3
set_option maxRecDepth 100000 in
set_option maxHeartbeats 4000000 in
theorem c_X9_hasSinks {l : Launch} {D : va_G} {k : Nat → ClassId} {ad : Nat → Nat} {S : xS} {p1 : Int} {res : Int} (hM : m_X9_hasSinks p1 S = some res) : xM l yX9_hasSinks wsX9_hasSinks rmX9_hasSinks D k [.ref (ad 24), .int (xi p1)] (wY ad k S) (some (.int (xi res))) (wY ad k S) := by
  refine xM_of (ret := (some .boolean)) (by decide) rfl (Nat.le_of_ble_eq_true rfl) (fun X C => ?_)
  have C : xC D k (xo X D k (some (.int (xi res))) (wY ad k S)) X cX9_hasSinks 4 RX9 wsX9_hasSinks (some .boolean) rmX9_hasSinks := C
  show xJ l D k (xo X D k (some (.int (xi res))) (wY ad k S)) X 4 0 [(0, .ref (ad 24)), (1, .int (xi p1))] [] (wY ad k S)
  unfold m_X9_hasSinks at hM
  refine xj_iconst C dX9_hasSinks_0 ?_
  refine xj_istore_n C (L1 := [(2, .int (xi 0)), (0, .ref (ad 24)), (1, .int (xi p1))]) dX9_hasSinks_1 rfl (by decide) rfl ?_
  refine xj_iconst C dX9_hasSinks_2 ?_
  refine xj_istore_n C (L1 := [(3, .int (xi 0)), (2, .int (xi 0)), (0, .ref (ad 24)), (1, .int (xi p1))]) dX9_hasSinks_3 rfl (by decide) rfl ?_
  obtain ⟨r9, hLr9, hM⟩ := xbd hM
  refine xj_loc C [2, 3, 1, 0] (L1 := [(0, .ref (ad 24)), (1, .int (xi p1)), (2, .int (xi 0)), (3, .int (xi 0))]) rfl ?_
  refine j_X9_hasSinks_L4 C p1 S _ _ _ _ hLr9 ?_
  refine xj_iload_n C 0 dX9_hasSinks_36 rfl rfl ?_
  obtain ⟨g10, hM⟩ := xck_some hM
  obtain rfl := Option.some.inj hM
  exact xj_zret g10 C rfl dX9_hasSinks_37
def rmX9_placeCost : Room := { frames := 2, cells := 0, slots := 0, locals := 49 }
theorem hv_X9_placeCost : yX9_placeCost.cls = RX9 ∧ yX9_placeCost.cls ≠ "java/lang/invoke/MethodHandle" ∧ yX9_placeCost.cls ≠ "java/lang/invoke/VarHandle" ∧ (parseMethodDescriptor yX9_placeCost.desc).map (fun d => d.parameters.length) = some 0 := by decide +kernel
def m_X9_placeCost_L4 (S : xS) : Nat → Int → Int → Option (Int)
  | 0, _, _ => none
  | n + 1, v1, v2 => xck (xr v2) (if 14 ≤ v2 then some v1 else (m_X9_hasSinks v2 S).bind (fun r3 => (xck (xr r3) (if r3 = 0 then some v1 else (m_X9_span v2 1 S).bind (fun r7 => (m_X9_span v2 0 S).bind (fun r8 => some (v1 + (r7 + r8)))))).bind (fun r4 => m_X9_placeCost_L4 S n r4 (v2 + 1))))
def m_X9_placeCost (S : xS) : Option (Int) := (m_X9_placeCost_L4 S 2000 0 0).bind (fun r9 => some r9)
set_option maxRecDepth 100000 in
set_option maxHeartbeats 4000000 in
theorem j_X9_placeCost_L4 {l : Launch} {D : va_G} {k : Nat → ClassId} {ad : Nat → Nat} {o : xO} {X : xX} (C : xC D k o X cX9_placeCost 3 RX9 wsX9_placeCost (some .int) rmX9_placeCost) (S : xS) : ∀ (n : Nat) (v1 : Int) (v2 : Int) (r : Int), m_X9_placeCost_L4 S n v1 v2 = some r → (xJ l D k o X 3 40 [(1, .int (xi r))] [] (wY ad k S)) → xJ l D k o X 3 4 [(0, .ref (ad 24)), (1, .int (xi v1)), (2, .int (xi v2))] [] (wY ad k S) := by
  intro n
  induction n with
  | zero =>
    intro v1 v2 r hM
    cases hM
  | succ n ih =>
    intro v1 v2 r hM K
    unfold m_X9_placeCost_L4 at hM
    refine xj_iload_n C 2 dX9_placeCost_4 rfl rfl ?_
    refine xj_bipush C (n := 14) (by decide) dX9_placeCost_5 ?_
    obtain ⟨g1, hM⟩ := xck_some hM
    refine xj_icmp_ge C (tgt := 40) dX9_placeCost_7 (by decide) ⟨g1, (by decide)⟩ (fun c2 => ?_) (fun c2 => ?_)
    · have hM := xit hM c2
      obtain rfl := Option.some.inj hM
      refine xj_loc C [1] (L1 := [(1, .int (xi v1))]) rfl ?_
      exact K
    · have hM := xif hM c2
      refine xj_aload_n C 0 dX9_placeCost_10 rfl rfl ?_
      refine xj_iload_n C 2 dX9_placeCost_11 rfl rfl ?_
      obtain ⟨r3, hRr3, hM⟩ := xbd hM
      refine xj_callV C [.int (xi v2)] [] 1 (c_X9_hasSinks hRr3) gX9_placeCost_X9_hasSinks rfl ⟨rfl, rfl⟩ hv_X9_hasSinks ⟨Nat.le_of_ble_eq_true rfl, Nat.le_of_ble_eq_true rfl⟩ 24 (eY_24 ad k _) rfl rfl (Nat.le_of_ble_eq_true rfl) dX9_placeCost_12 ?_
      obtain ⟨r4, hRr4, hM⟩ := xbd hM
      have Kr4 : xJ l D k o X 3 34 [(0, .ref (ad 24)), (1, .int (xi r4)), (2, .int (xi v2))] [] (wY ad k S) := by
        refine xj_iinc C 2 (L1 := [(2, .int (xi (v2 + 1))), (0, .ref (ad 24)), (1, .int (xi r4))]) dX9_placeCost_34 rfl (by decide) rfl ?_
        refine xj_goto C (tgt := 4) dX9_placeCost_37 (by decide) ?_
        refine xj_loc C [1, 2, 0] (L1 := [(0, .ref (ad 24)), (1, .int (xi r4)), (2, .int (xi (v2 + 1)))]) rfl ?_
        exact ih _ _ _ hM K
      clear hM
      have hM := hRr4
      obtain ⟨g5, hM⟩ := xck_some hM
      refine xj_if_eq C (tgt := 34) dX9_placeCost_15 (by decide) g5 (fun c6 => ?_) (fun c6 => ?_)
      · have hM := xit hM c6
        obtain rfl := Option.some.inj hM
        exact Kr4
      · have hM := xif hM c6
        refine xj_iload_n C 1 dX9_placeCost_18 rfl rfl ?_
        refine xj_aload_n C 0 dX9_placeCost_19 rfl rfl ?_
        refine xj_iload_n C 2 dX9_placeCost_20 rfl rfl ?_
        refine xj_iconst C dX9_placeCost_21 ?_
        obtain ⟨r7, hRr7, hM⟩ := xbd hM
        refine xj_callV C [.int (xi v2), .int (xi 1)] [.int (xi v1)] 2 (c_X9_span hRr7) gX9_placeCost_X9_span rfl ⟨rfl, rfl⟩ hv_X9_span ⟨Nat.le_of_ble_eq_true rfl, Nat.le_of_ble_eq_true rfl⟩ 24 (eY_24 ad k _) rfl rfl (Nat.le_of_ble_eq_true rfl) dX9_placeCost_22 ?_
        refine xj_aload_n C 0 dX9_placeCost_25 rfl rfl ?_
        refine xj_iload_n C 2 dX9_placeCost_26 rfl rfl ?_
        refine xj_iconst C dX9_placeCost_27 ?_
        obtain ⟨r8, hRr8, hM⟩ := xbd hM
        refine xj_callV C [.int (xi v2), .int (xi 0)] [.int (xi r7), .int (xi v1)] 2 (c_X9_span hRr8) gX9_placeCost_X9_span rfl ⟨rfl, rfl⟩ hv_X9_span ⟨Nat.le_of_ble_eq_true rfl, Nat.le_of_ble_eq_true rfl⟩ 24 (eY_24 ad k _) rfl rfl (Nat.le_of_ble_eq_true rfl) dX9_placeCost_28 ?_
        refine xj_iadd C dX9_placeCost_31 ?_
        refine xj_iadd C dX9_placeCost_32 ?_
        refine xj_istore_n C (L1 := [(1, .int (xi (v1 + (r7 + r8)))), (0, .ref (ad 24)), (2, .int (xi v2))]) dX9_placeCost_33 rfl (by decide) rfl ?_
        obtain rfl := Option.some.inj hM
        refine xj_loc C [1, 0, 2] (L1 := [(0, .ref (ad 24)), (1, .int (xi (v1 + (r7 + r8)))), (2, .int (xi v2))]) rfl ?_
        exact Kr4
set_option maxRecDepth 100000 in
set_option maxHeartbeats 4000000 in
theorem c_X9_placeCost {l : Launch} {D : va_G} {k : Nat → ClassId} {ad : Nat → Nat} {S : xS} {res : Int} (hM : m_X9_placeCost S = some res) : xM l yX9_placeCost wsX9_placeCost rmX9_placeCost D k [.ref (ad 24)] (wY ad k S) (some (.int (xi res))) (wY ad k S) := by
  refine xM_of (ret := (some .int)) (by decide) rfl (Nat.le_of_ble_eq_true rfl) (fun X C => ?_)
  have C : xC D k (xo X D k (some (.int (xi res))) (wY ad k S)) X cX9_placeCost 3 RX9 wsX9_placeCost (some .int) rmX9_placeCost := C
  show xJ l D k (xo X D k (some (.int (xi res))) (wY ad k S)) X 3 0 [(0, .ref (ad 24))] [] (wY ad k S)
  unfold m_X9_placeCost at hM
  refine xj_iconst C dX9_placeCost_0 ?_
  refine xj_istore_n C (L1 := [(1, .int (xi 0)), (0, .ref (ad 24))]) dX9_placeCost_1 rfl (by decide) rfl ?_
  refine xj_iconst C dX9_placeCost_2 ?_
  refine xj_istore_n C (L1 := [(2, .int (xi 0)), (1, .int (xi 0)), (0, .ref (ad 24))]) dX9_placeCost_3 rfl (by decide) rfl ?_
  obtain ⟨r9, hLr9, hM⟩ := xbd hM
  refine xj_loc C [2, 1, 0] (L1 := [(0, .ref (ad 24)), (1, .int (xi 0)), (2, .int (xi 0))]) rfl ?_
  refine j_X9_placeCost_L4 C S _ _ _ _ hLr9 ?_
  refine xj_iload_n C 0 dX9_placeCost_40 rfl rfl ?_
  obtain rfl := Option.some.inj hM
  exact xj_iret C rfl dX9_placeCost_41
def rmX9_put : Room := { frames := 0, cells := 0, slots := 0, locals := 0 }
theorem hv_X9_put : yX9_put.cls = RX9 ∧ yX9_put.cls ≠ "java/lang/invoke/MethodHandle" ∧ yX9_put.cls ≠ "java/lang/invoke/VarHandle" ∧ (parseMethodDescriptor yX9_put.desc).map (fun d => d.parameters.length) = some 2 := by decide +kernel
def m_X9_put (p1 : Int) (p2 : Int) (S : xS) : Option (xS) := xck (0 ≤ p1 ∧ p1 < 10) (xck (0 ≤ p2 ∧ p2 < 16) (some (xup (xup S 13 p1 p2) 14 p2 p1)))
set_option maxRecDepth 100000 in
set_option maxHeartbeats 4000000 in
theorem c_X9_put {l : Launch} {D : va_G} {k : Nat → ClassId} {ad : Nat → Nat} {S : xS} {p1 : Int} {p2 : Int} {res : xS} (hM : m_X9_put p1 p2 S = some res) : xM l yX9_put wsX9_put rmX9_put D k [.ref (ad 24), .int (xi p1), .int (xi p2)] (wY ad k S) none (wY ad k res) := by
  refine xM_of (ret := none) (by decide) rfl (Nat.le_of_ble_eq_true rfl) (fun X C => ?_)
  have C : xC D k (xo X D k none (wY ad k res)) X cX9_put 3 RX9 wsX9_put none rmX9_put := C
  show xJ l D k (xo X D k none (wY ad k res)) X 3 0 [(0, .ref (ad 24)), (1, .int (xi p1)), (2, .int (xi p2))] [] (wY ad k S)
  unfold m_X9_put at hM
  refine xj_aload_n C 0 dX9_put_0 rfl rfl ?_
  refine xj_get C (fun _ h => List.mem_cons_of_mem _ (List.mem_append_right _ h)) 24 (eY_24 ad k S) rfl 16 (by decide) (List.mem_of_getElem? (i := 1) rfl) (fun _ _ h => h) rfl dX9_put_1 ?_
  refine xj_iload_n C 1 dX9_put_4 rfl rfl ?_
  refine xj_iload_n C 2 dX9_put_5 rfl rfl ?_
  obtain ⟨g1, hM⟩ := xck_some hM
  refine xj_iast C 13 S 13 (eY_13 ad k S) (Nat.le_of_ble_eq_true rfl) g1 (sY_13 ad k S p1 p2) dX9_put_6 ?_
  refine xj_aload_n C 0 dX9_put_7 rfl rfl ?_
  refine xj_get C (fun _ h => List.mem_cons_of_mem _ (List.mem_append_right _ h)) 24 (eY_24 ad k (xup S 13 p1 p2)) rfl 17 (by decide) (List.mem_of_getElem? (i := 2) rfl) (fun _ _ h => h) rfl dX9_put_8 ?_
  refine xj_iload_n C 2 dX9_put_11 rfl rfl ?_
  refine xj_iload_n C 1 dX9_put_12 rfl rfl ?_
  obtain ⟨g2, hM⟩ := xck_some hM
  refine xj_iast C 14 (xup S 13 p1 p2) 14 (eY_14 ad k (xup S 13 p1 p2)) (Nat.le_of_ble_eq_true rfl) g2 (sY_14 ad k (xup S 13 p1 p2) p2 p1) dX9_put_13 ?_
  obtain rfl := Option.some.inj hM
  exact xj_vret C rfl dX9_put_14
def rmX9_exchange : Room := { frames := 0, cells := 0, slots := 0, locals := 0 }
theorem hv_X9_exchange : yX9_exchange.cls = RX9 ∧ yX9_exchange.cls ≠ "java/lang/invoke/MethodHandle" ∧ yX9_exchange.cls ≠ "java/lang/invoke/VarHandle" ∧ (parseMethodDescriptor yX9_exchange.desc).map (fun d => d.parameters.length) = some 2 := by decide +kernel
def m_X9_exchange (p1 : Int) (p2 : Int) (S : xS) : Option (xS) := xck (0 ≤ p1 ∧ p1 < 16) (xck (0 ≤ p2 ∧ p2 < 16) ((xck (xr (S 14 p1)) (if (S 14 p1) < 0 then some (xup (xup S 14 p1 (S 14 p2)) 14 p2 (S 14 p1)) else xck (0 ≤ (S 14 p1) ∧ (S 14 p1) < 10) (some (xup (xup (xup S 14 p1 (S 14 p2)) 14 p2 (S 14 p1)) 13 (S 14 p1) p2)))).bind (fun r3 => xck (xr (S 14 p2)) (if (S 14 p2) < 0 then some r3 else xck (0 ≤ (S 14 p2) ∧ (S 14 p2) < 10) (some (xup r3 13 (S 14 p2) p1))))))
set_option maxRecDepth 100000 in
set_option maxHeartbeats 4000000 in
theorem c_X9_exchange {l : Launch} {D : va_G} {k : Nat → ClassId} {ad : Nat → Nat} {S : xS} {p1 : Int} {p2 : Int} {res : xS} (hM : m_X9_exchange p1 p2 S = some res) : xM l yX9_exchange wsX9_exchange rmX9_exchange D k [.ref (ad 24), .int (xi p1), .int (xi p2)] (wY ad k S) none (wY ad k res) := by
  refine xM_of (ret := none) (by decide) rfl (Nat.le_of_ble_eq_true rfl) (fun X C => ?_)
  have C : xC D k (xo X D k none (wY ad k res)) X cX9_exchange 5 RX9 wsX9_exchange none rmX9_exchange := C
  show xJ l D k (xo X D k none (wY ad k res)) X 5 0 [(0, .ref (ad 24)), (1, .int (xi p1)), (2, .int (xi p2))] [] (wY ad k S)
  unfold m_X9_exchange at hM
  refine xj_aload_n C 0 dX9_exchange_0 rfl rfl ?_
  refine xj_get C (fun _ h => List.mem_cons_of_mem _ (List.mem_append_right _ h)) 24 (eY_24 ad k S) rfl 17 (by decide) (List.mem_of_getElem? (i := 1) rfl) (fun _ _ h => h) rfl dX9_exchange_1 ?_
  refine xj_iload_n C 1 dX9_exchange_4 rfl rfl ?_
  obtain ⟨g1, hM⟩ := xck_some hM
  refine xj_iald C 14 S 14 (eY_14 ad k S) (Nat.le_of_ble_eq_true rfl) g1 dX9_exchange_5 ?_
  refine xj_istore_n C (L1 := [(3, .int (xi (S 14 p1))), (0, .ref (ad 24)), (1, .int (xi p1)), (2, .int (xi p2))]) dX9_exchange_6 rfl (by decide) rfl ?_
  refine xj_aload_n C 1 dX9_exchange_7 rfl rfl ?_
  refine xj_get C (fun _ h => List.mem_cons_of_mem _ (List.mem_append_right _ h)) 24 (eY_24 ad k S) rfl 17 (by decide) (List.mem_of_getElem? (i := 1) rfl) (fun _ _ h => h) rfl dX9_exchange_8 ?_
  refine xj_iload_n C 3 dX9_exchange_11 rfl rfl ?_
  obtain ⟨g2, hM⟩ := xck_some hM
  refine xj_iald C 14 S 14 (eY_14 ad k S) (Nat.le_of_ble_eq_true rfl) g2 dX9_exchange_12 ?_
  refine xj_istore C (L1 := [(4, .int (xi (S 14 p2))), (3, .int (xi (S 14 p1))), (0, .ref (ad 24)), (1, .int (xi p1)), (2, .int (xi p2))]) dX9_exchange_13 (by decide) rfl ?_
  refine xj_aload_n C 2 dX9_exchange_15 rfl rfl ?_
  refine xj_get C (fun _ h => List.mem_cons_of_mem _ (List.mem_append_right _ h)) 24 (eY_24 ad k S) rfl 17 (by decide) (List.mem_of_getElem? (i := 1) rfl) (fun _ _ h => h) rfl dX9_exchange_16 ?_
  refine xj_iload_n C 3 dX9_exchange_19 rfl rfl ?_
  refine xj_iload C 0 dX9_exchange_20 rfl ?_
  refine xj_iast C 14 S 14 (eY_14 ad k S) (Nat.le_of_ble_eq_true rfl) g1 (sY_14 ad k S p1 (S 14 p2)) dX9_exchange_22 ?_
  refine xj_aload_n C 2 dX9_exchange_23 rfl rfl ?_
  refine xj_get C (fun _ h => List.mem_cons_of_mem _ (List.mem_append_right _ h)) 24 (eY_24 ad k (xup S 14 p1 (S 14 p2))) rfl 17 (by decide) (List.mem_of_getElem? (i := 1) rfl) (fun _ _ h => h) rfl dX9_exchange_24 ?_
  refine xj_iload_n C 4 dX9_exchange_27 rfl rfl ?_
  refine xj_iload_n C 1 dX9_exchange_28 rfl rfl ?_
  refine xj_iast C 14 (xup S 14 p1 (S 14 p2)) 14 (eY_14 ad k (xup S 14 p1 (S 14 p2))) (Nat.le_of_ble_eq_true rfl) g2 (sY_14 ad k (xup S 14 p1 (S 14 p2)) p2 (S 14 p1)) dX9_exchange_29 ?_
  refine xj_iload_n C 1 dX9_exchange_30 rfl rfl ?_
  obtain ⟨r3, hRr3, hM⟩ := xbd hM
  have Kr3 : xJ l D k (xo X D k none (wY ad k res)) X 5 41 [(0, .ref (ad 24)), (1, .int (xi p1)), (4, .int (xi (S 14 p2)))] [] (wY ad k r3) := by
    refine xj_iload C 2 dX9_exchange_41 rfl ?_
    obtain ⟨g7, hM⟩ := xck_some hM
    refine xj_if_lt C (tgt := 54) dX9_exchange_43 (by decide) g7 (fun c8 => ?_) (fun c8 => ?_)
    · have hM := xit hM c8
      obtain rfl := Option.some.inj hM
      exact xj_vret C rfl dX9_exchange_54
    · have hM := xif hM c8
      refine xj_aload_n C 0 dX9_exchange_46 rfl rfl ?_
      refine xj_get C (fun _ h => List.mem_cons_of_mem _ (List.mem_append_right _ h)) 24 (eY_24 ad k r3) rfl 16 (by decide) (List.mem_of_getElem? (i := 2) rfl) (fun _ _ h => h) rfl dX9_exchange_47 ?_
      refine xj_iload C 2 dX9_exchange_50 rfl ?_
      refine xj_iload_n C 1 dX9_exchange_52 rfl rfl ?_
      obtain ⟨g9, hM⟩ := xck_some hM
      refine xj_iast C 13 r3 13 (eY_13 ad k r3) (Nat.le_of_ble_eq_true rfl) g9 (sY_13 ad k r3 (S 14 p2) p1) dX9_exchange_53 ?_
      obtain rfl := Option.some.inj hM
      exact xj_vret C rfl dX9_exchange_54
  clear hM
  have hM := hRr3
  obtain ⟨g4, hM⟩ := xck_some hM
  refine xj_if_lt C (tgt := 41) dX9_exchange_31 (by decide) g4 (fun c5 => ?_) (fun c5 => ?_)
  · have hM := xit hM c5
    obtain rfl := Option.some.inj hM
    refine xj_loc C [2, 3, 0] (L1 := [(0, .ref (ad 24)), (1, .int (xi p1)), (4, .int (xi (S 14 p2)))]) rfl ?_
    exact Kr3
  · have hM := xif hM c5
    refine xj_aload_n C 2 dX9_exchange_34 rfl rfl ?_
    refine xj_get C (fun _ h => List.mem_cons_of_mem _ (List.mem_append_right _ h)) 24 (eY_24 ad k (xup (xup S 14 p1 (S 14 p2)) 14 p2 (S 14 p1))) rfl 16 (by decide) (List.mem_of_getElem? (i := 2) rfl) (fun _ _ h => h) rfl dX9_exchange_35 ?_
    refine xj_iload_n C 1 dX9_exchange_38 rfl rfl ?_
    refine xj_iload_n C 4 dX9_exchange_39 rfl rfl ?_
    obtain ⟨g6, hM⟩ := xck_some hM
    refine xj_iast C 13 (xup (xup S 14 p1 (S 14 p2)) 14 p2 (S 14 p1)) 13 (eY_13 ad k (xup (xup S 14 p1 (S 14 p2)) 14 p2 (S 14 p1))) (Nat.le_of_ble_eq_true rfl) g6 (sY_13 ad k (xup (xup S 14 p1 (S 14 p2)) 14 p2 (S 14 p1)) (S 14 p1) p2) dX9_exchange_40 ?_
    obtain rfl := Option.some.inj hM
    refine xj_loc C [2, 3, 0] (L1 := [(0, .ref (ad 24)), (1, .int (xi p1)), (4, .int (xi (S 14 p2)))]) rfl ?_
    exact Kr3
def rmX9_isFixed : Room := { frames := 0, cells := 0, slots := 0, locals := 0 }
theorem hv_X9_isFixed : yX9_isFixed.cls = RX9 ∧ yX9_isFixed.cls ≠ "java/lang/invoke/MethodHandle" ∧ yX9_isFixed.cls ≠ "java/lang/invoke/VarHandle" ∧ (parseMethodDescriptor yX9_isFixed.desc).map (fun d => d.parameters.length) = some 1 := by decide +kernel
def m_X9_isFixed (p1 : Int) (S : xS) : Option (Int) := xck (0 ≤ p1 ∧ p1 < 16) (xck (xr (S 14 p1)) (if (S 14 p1) < 0 then some 0 else ((if 0 ≤ (S 14 p1) then some (S 14 p1) else some 0)).bind (fun r4 => xck (0 ≤ r4 ∧ r4 < 10) (xck (xr (S 10 r4)) (if (S 10 r4) < 0 then some 0 else some 1)))))
set_option maxRecDepth 100000 in
set_option maxHeartbeats 4000000 in
theorem c_X9_isFixed {l : Launch} {D : va_G} {k : Nat → ClassId} {ad : Nat → Nat} {S : xS} {p1 : Int} {res : Int} (hM : m_X9_isFixed p1 S = some res) : xM l yX9_isFixed wsX9_isFixed rmX9_isFixed D k [.ref (ad 24), .int (xi p1)] (wY ad k S) (some (.int (xi res))) (wY ad k S) := by
  refine xM_of (ret := (some .boolean)) (by decide) rfl (Nat.le_of_ble_eq_true rfl) (fun X C => ?_)
  have C : xC D k (xo X D k (some (.int (xi res))) (wY ad k S)) X cX9_isFixed 2 RX9 wsX9_isFixed (some .boolean) rmX9_isFixed := C
  show xJ l D k (xo X D k (some (.int (xi res))) (wY ad k S)) X 2 0 [(0, .ref (ad 24)), (1, .int (xi p1))] [] (wY ad k S)
  unfold m_X9_isFixed at hM
  refine xj_aload_n C 0 dX9_isFixed_0 rfl rfl ?_
  refine xj_get C (fun _ h => List.mem_cons_of_mem _ (List.mem_append_right _ h)) 24 (eY_24 ad k S) rfl 17 (by decide) (List.mem_of_getElem? (i := 1) rfl) (fun _ _ h => h) rfl dX9_isFixed_1 ?_
  refine xj_iload_n C 1 dX9_isFixed_4 rfl rfl ?_
  obtain ⟨g1, hM⟩ := xck_some hM
  refine xj_iald C 14 S 14 (eY_14 ad k S) (Nat.le_of_ble_eq_true rfl) g1 dX9_isFixed_5 ?_
  obtain ⟨g2, hM⟩ := xck_some hM
  refine xj_if_lt C (tgt := 40) dX9_isFixed_6 (by decide) g2 (fun c3 => ?_) (fun c3 => ?_)
  · have hM := xit hM c3
    refine xj_iconst C dX9_isFixed_40 ?_
    obtain rfl := Option.some.inj hM
    exact xj_zret (Or.inl rfl) C rfl dX9_isFixed_41
  · have hM := xif hM c3
    refine xj_aload_n C 0 dX9_isFixed_9 rfl rfl ?_
    refine xj_get C (fun _ h => List.mem_cons_of_mem _ (List.mem_append_right _ h)) 24 (eY_24 ad k S) rfl 11 (by decide) (List.mem_of_getElem? (i := 2) rfl) (fun _ _ h => h) rfl dX9_isFixed_10 ?_
    refine xj_aload_n C 0 dX9_isFixed_13 rfl rfl ?_
    refine xj_get C (fun _ h => List.mem_cons_of_mem _ (List.mem_append_right _ h)) 24 (eY_24 ad k S) rfl 17 (by decide) (List.mem_of_getElem? (i := 1) rfl) (fun _ _ h => h) rfl dX9_isFixed_14 ?_
    refine xj_iload_n C 1 dX9_isFixed_17 rfl rfl ?_
    refine xj_iald C 14 S 14 (eY_14 ad k S) (Nat.le_of_ble_eq_true rfl) g1 dX9_isFixed_18 ?_
    obtain ⟨r4, hRr4, hM⟩ := xbd hM
    have Kr4 : xJ l D k (xo X D k (some (.int (xi res))) (wY ad k S)) X 2 32 [] [.int (xi r4), .ref (ad 10)] (wY ad k S) := by
      obtain ⟨g6, hM⟩ := xck_some hM
      refine xj_iald C 10 S 10 (eY_10 ad k S) (Nat.le_of_ble_eq_true rfl) g6 dX9_isFixed_32 ?_
      obtain ⟨g7, hM⟩ := xck_some hM
      refine xj_if_lt C (tgt := 40) dX9_isFixed_33 (by decide) g7 (fun c8 => ?_) (fun c8 => ?_)
      · have hM := xit hM c8
        refine xj_iconst C dX9_isFixed_40 ?_
        obtain rfl := Option.some.inj hM
        exact xj_zret (Or.inl rfl) C rfl dX9_isFixed_41
      · have hM := xif hM c8
        refine xj_iconst C dX9_isFixed_36 ?_
        refine xj_goto C (tgt := 41) dX9_isFixed_37 (by decide) ?_
        obtain rfl := Option.some.inj hM
        exact xj_zret (Or.inr rfl) C rfl dX9_isFixed_41
    clear hM
    have hM := hRr4
    refine xj_if_ge C (tgt := 26) dX9_isFixed_19 (by decide) g2 (fun c5 => ?_) (fun c5 => ?_)
    · have hM := xit hM c5
      refine xj_aload_n C 0 dX9_isFixed_26 rfl rfl ?_
      refine xj_get C (fun _ h => List.mem_cons_of_mem _ (List.mem_append_right _ h)) 24 (eY_24 ad k S) rfl 17 (by decide) (List.mem_of_getElem? (i := 1) rfl) (fun _ _ h => h) rfl dX9_isFixed_27 ?_
      refine xj_iload_n C 1 dX9_isFixed_30 rfl rfl ?_
      refine xj_iald C 14 S 14 (eY_14 ad k S) (Nat.le_of_ble_eq_true rfl) g1 dX9_isFixed_31 ?_
      obtain rfl := Option.some.inj hM
      refine xj_loc C [] (L1 := []) rfl ?_
      exact Kr4
    · have hM := xif hM c5
      refine xj_iconst C dX9_isFixed_22 ?_
      refine xj_goto C (tgt := 32) dX9_isFixed_23 (by decide) ?_
      obtain rfl := Option.some.inj hM
      refine xj_loc C [] (L1 := []) rfl ?_
      exact Kr4
def rmX9_pass : Room := { frames := 3, cells := 0, slots := 0, locals := 71 }
theorem hv_X9_pass : yX9_pass.cls = RX9 ∧ yX9_pass.cls ≠ "java/lang/invoke/MethodHandle" ∧ yX9_pass.cls ≠ "java/lang/invoke/VarHandle" ∧ (parseMethodDescriptor yX9_pass.desc).map (fun d => d.parameters.length) = some 0 := by decide +kernel
def m_X9_pass_L14 (p2 : Int) : Nat → Int → Int → xS → Option (Int × xS)
  | 0, _, _, _ => none
  | n + 1, v1, v3, S => xck (xr v3) (if 16 ≤ v3 then some (v1, S) else (m_X9_isFixed p2 S).bind (fun r5 => (xck (xr r5) (if r5 = 0 then (m_X9_isFixed v3 S).bind (fun r9 => xck (xr r9) (if r9 = 0 then xck (0 ≤ p2 ∧ p2 < 16) (xck (xr (S 14 p2)) (if 0 ≤ (S 14 p2) then (m_X9_placeCost S).bind (fun r15 => (m_X9_exchange p2 v3 S).bind (fun r16 => (m_X9_placeCost r16).bind (fun r17 => xck (xr r17 ∧ xr r15) (if r15 ≤ r17 then (m_X9_exchange p2 v3 r16).bind (fun r20 => some (v1, r20)) else some (1, r16))))) else xck (0 ≤ v3 ∧ v3 < 16) (xck (xr (S 14 v3)) (if (S 14 v3) < 0 then some (v1, S) else (m_X9_placeCost S).bind (fun r24 => (m_X9_exchange p2 v3 S).bind (fun r25 => (m_X9_placeCost r25).bind (fun r26 => xck (xr r26 ∧ xr r24) (if r24 ≤ r26 then (m_X9_exchange p2 v3 r25).bind (fun r29 => some (v1, r29)) else some (1, r25))))))))) else some (v1, S))) else some (v1, S))).bind (fun r6 => m_X9_pass_L14 p2 n r6.1 (v3 + 1) r6.2)))
def m_X9_pass_L4 : Nat → Int → Int → xS → Option (Int × xS)
  | 0, _, _, _ => none
  | n + 1, v1, v2, S => xck (xr v2) (if 16 ≤ v2 then some (v1, S) else (m_X9_pass_L14 v2 2000 v1 (v2 + 1) S).bind (fun r30 => m_X9_pass_L4 n r30.1 (v2 + 1) r30.2))
def m_X9_pass (S : xS) : Option (Int × xS) := (m_X9_pass_L4 2000 0 0 S).bind (fun r31 => xck (r31.1 = 0 ∨ r31.1 = 1) (some (r31.1, r31.2)))
set_option maxRecDepth 100000 in
set_option maxHeartbeats 4000000 in
theorem j_X9_pass_L14 {l : Launch} {D : va_G} {k : Nat → ClassId} {ad : Nat → Nat} {o : xO} {X : xX} (C : xC D k o X cX9_pass 5 RX9 wsX9_pass (some .boolean) rmX9_pass) (p2 : Int) : ∀ (n : Nat) (v1 : Int) (v3 : Int) (S : xS) (r : Int × xS), m_X9_pass_L14 p2 n v1 v3 S = some r → (xJ l D k o X 5 92 [(0, .ref (ad 24)), (1, .int (xi r.1)), (2, .int (xi p2))] [] (wY ad k r.2)) → xJ l D k o X 5 14 [(0, .ref (ad 24)), (1, .int (xi v1)), (2, .int (xi p2)), (3, .int (xi v3))] [] (wY ad k S) := by
  intro n
  induction n with
  | zero =>
    intro v1 v3 S r hM
    cases hM
  | succ n ih =>
    intro v1 v3 S r hM K
    unfold m_X9_pass_L14 at hM
    refine xj_iload_n C 3 dX9_pass_14 rfl rfl ?_
    refine xj_bipush C (n := 16) (by decide) dX9_pass_15 ?_
    obtain ⟨g3, hM⟩ := xck_some hM
    refine xj_icmp_ge C (tgt := 92) dX9_pass_17 (by decide) ⟨g3, (by decide)⟩ (fun c4 => ?_) (fun c4 => ?_)
    · have hM := xit hM c4
      obtain rfl := Option.some.inj hM
      refine xj_loc C [0, 1, 2] (L1 := [(0, .ref (ad 24)), (1, .int (xi v1)), (2, .int (xi p2))]) rfl ?_
      exact K
    · have hM := xif hM c4
      refine xj_aload_n C 0 dX9_pass_20 rfl rfl ?_
      refine xj_iload_n C 2 dX9_pass_21 rfl rfl ?_
      obtain ⟨r5, hRr5, hM⟩ := xbd hM
      refine xj_callV C [.int (xi p2)] [] 1 (c_X9_isFixed hRr5) gX9_pass_X9_isFixed rfl ⟨rfl, rfl⟩ hv_X9_isFixed ⟨Nat.le_of_ble_eq_true rfl, Nat.le_of_ble_eq_true rfl⟩ 24 (eY_24 ad k _) rfl rfl (Nat.le_of_ble_eq_true rfl) dX9_pass_22 ?_
      obtain ⟨r6, hRr6, hM⟩ := xbd hM
      have Kr6 : xJ l D k o X 5 86 [(0, .ref (ad 24)), (1, .int (xi r6.1)), (2, .int (xi p2)), (3, .int (xi v3))] [] (wY ad k r6.2) := by
        refine xj_iinc C 3 (L1 := [(3, .int (xi (v3 + 1))), (0, .ref (ad 24)), (1, .int (xi r6.1)), (2, .int (xi p2))]) dX9_pass_86 rfl (by decide) rfl ?_
        refine xj_goto C (tgt := 14) dX9_pass_89 (by decide) ?_
        refine xj_loc C [1, 2, 3, 0] (L1 := [(0, .ref (ad 24)), (1, .int (xi r6.1)), (2, .int (xi p2)), (3, .int (xi (v3 + 1)))]) rfl ?_
        exact ih _ _ _ _ hM K
      clear hM
      have hM := hRr6
      obtain ⟨g7, hM⟩ := xck_some hM
      refine xj_if_ne C (tgt := 86) dX9_pass_25 (by decide) g7 (fun c8 => ?_) (fun c8 => ?_)
      · have hM := xif hM c8
        obtain rfl := Option.some.inj hM
        exact Kr6
      · have hM := xit hM c8
        refine xj_aload_n C 0 dX9_pass_28 rfl rfl ?_
        refine xj_iload_n C 3 dX9_pass_29 rfl rfl ?_
        obtain ⟨r9, hRr9, hM⟩ := xbd hM
        refine xj_callV C [.int (xi v3)] [] 1 (c_X9_isFixed hRr9) gX9_pass_X9_isFixed rfl ⟨rfl, rfl⟩ hv_X9_isFixed ⟨Nat.le_of_ble_eq_true rfl, Nat.le_of_ble_eq_true rfl⟩ 24 (eY_24 ad k _) rfl rfl (Nat.le_of_ble_eq_true rfl) dX9_pass_30 ?_
        obtain ⟨g10, hM⟩ := xck_some hM
        refine xj_if_ne C (tgt := 86) dX9_pass_33 (by decide) g10 (fun c11 => ?_) (fun c11 => ?_)
        · have hM := xif hM c11
          obtain rfl := Option.some.inj hM
          exact Kr6
        · have hM := xit hM c11
          refine xj_aload_n C 0 dX9_pass_36 rfl rfl ?_
          refine xj_get C (fun _ h => List.mem_cons_of_mem _ (List.mem_append_right _ h)) 24 (eY_24 ad k S) rfl 17 (by decide) (List.mem_of_getElem? (i := 1) rfl) (fun _ _ h => h) rfl dX9_pass_37 ?_
          refine xj_iload_n C 2 dX9_pass_40 rfl rfl ?_
          obtain ⟨g12, hM⟩ := xck_some hM
          refine xj_iald C 14 S 14 (eY_14 ad k S) (Nat.le_of_ble_eq_true rfl) g12 dX9_pass_41 ?_
          obtain ⟨g13, hM⟩ := xck_some hM
          refine xj_if_ge C (tgt := 54) dX9_pass_42 (by decide) g13 (fun c14 => ?_) (fun c14 => ?_)
          · have hM := xit hM c14
            refine xj_aload_n C 0 dX9_pass_54 rfl rfl ?_
            obtain ⟨r15, hRr15, hM⟩ := xbd hM
            refine xj_callV C [] [] 0 (c_X9_placeCost hRr15) gX9_pass_X9_placeCost rfl ⟨rfl, rfl⟩ hv_X9_placeCost ⟨Nat.le_of_ble_eq_true rfl, Nat.le_of_ble_eq_true rfl⟩ 24 (eY_24 ad k _) rfl rfl (Nat.le_of_ble_eq_true rfl) dX9_pass_55 ?_
            refine xj_istore C (L1 := [(4, .int (xi r15)), (0, .ref (ad 24)), (1, .int (xi v1)), (2, .int (xi p2)), (3, .int (xi v3))]) dX9_pass_58 (by decide) rfl ?_
            refine xj_aload_n C 1 dX9_pass_60 rfl rfl ?_
            refine xj_iload_n C 3 dX9_pass_61 rfl rfl ?_
            refine xj_iload_n C 4 dX9_pass_62 rfl rfl ?_
            obtain ⟨r16, hRr16, hM⟩ := xbd hM
            refine xj_callV C [.int (xi p2), .int (xi v3)] [] 2 (c_X9_exchange hRr16) gX9_pass_X9_exchange rfl ⟨rfl, rfl⟩ hv_X9_exchange ⟨Nat.le_of_ble_eq_true rfl, Nat.le_of_ble_eq_true rfl⟩ 24 (eY_24 ad k _) rfl rfl (Nat.le_of_ble_eq_true rfl) dX9_pass_63 ?_
            refine xj_aload_n C 1 dX9_pass_66 rfl rfl ?_
            obtain ⟨r17, hRr17, hM⟩ := xbd hM
            refine xj_callV C [] [] 0 (c_X9_placeCost hRr17) gX9_pass_X9_placeCost rfl ⟨rfl, rfl⟩ hv_X9_placeCost ⟨Nat.le_of_ble_eq_true rfl, Nat.le_of_ble_eq_true rfl⟩ 24 (eY_24 ad k _) rfl rfl (Nat.le_of_ble_eq_true rfl) dX9_pass_67 ?_
            refine xj_iload C 0 dX9_pass_70 rfl ?_
            obtain ⟨g18, hM⟩ := xck_some hM
            refine xj_icmp_ge C (tgt := 80) dX9_pass_72 (by decide) ⟨g18.1, g18.2⟩ (fun c19 => ?_) (fun c19 => ?_)
            · have hM := xit hM c19
              refine xj_aload_n C 1 dX9_pass_80 rfl rfl ?_
              refine xj_iload_n C 3 dX9_pass_81 rfl rfl ?_
              refine xj_iload_n C 4 dX9_pass_82 rfl rfl ?_
              obtain ⟨r20, hRr20, hM⟩ := xbd hM
              refine xj_callV C [.int (xi p2), .int (xi v3)] [] 2 (c_X9_exchange hRr20) gX9_pass_X9_exchange rfl ⟨rfl, rfl⟩ hv_X9_exchange ⟨Nat.le_of_ble_eq_true rfl, Nat.le_of_ble_eq_true rfl⟩ 24 (eY_24 ad k _) rfl rfl (Nat.le_of_ble_eq_true rfl) dX9_pass_83 ?_
              obtain rfl := Option.some.inj hM
              refine xj_loc C [1, 2, 3, 4] (L1 := [(0, .ref (ad 24)), (1, .int (xi v1)), (2, .int (xi p2)), (3, .int (xi v3))]) rfl ?_
              exact Kr6
            · have hM := xif hM c19
              refine xj_iconst C dX9_pass_75 ?_
              refine xj_istore_n C (L1 := [(1, .int (xi 1)), (4, .int (xi r15)), (0, .ref (ad 24)), (2, .int (xi p2)), (3, .int (xi v3))]) dX9_pass_76 rfl (by decide) rfl ?_
              refine xj_goto C (tgt := 86) dX9_pass_77 (by decide) ?_
              obtain rfl := Option.some.inj hM
              refine xj_loc C [2, 0, 3, 4] (L1 := [(0, .ref (ad 24)), (1, .int (xi 1)), (2, .int (xi p2)), (3, .int (xi v3))]) rfl ?_
              exact Kr6
          · have hM := xif hM c14
            refine xj_aload_n C 0 dX9_pass_45 rfl rfl ?_
            refine xj_get C (fun _ h => List.mem_cons_of_mem _ (List.mem_append_right _ h)) 24 (eY_24 ad k S) rfl 17 (by decide) (List.mem_of_getElem? (i := 1) rfl) (fun _ _ h => h) rfl dX9_pass_46 ?_
            refine xj_iload_n C 3 dX9_pass_49 rfl rfl ?_
            obtain ⟨g21, hM⟩ := xck_some hM
            refine xj_iald C 14 S 14 (eY_14 ad k S) (Nat.le_of_ble_eq_true rfl) g21 dX9_pass_50 ?_
            obtain ⟨g22, hM⟩ := xck_some hM
            refine xj_if_lt C (tgt := 86) dX9_pass_51 (by decide) g22 (fun c23 => ?_) (fun c23 => ?_)
            · have hM := xit hM c23
              obtain rfl := Option.some.inj hM
              exact Kr6
            · have hM := xif hM c23
              refine xj_aload_n C 0 dX9_pass_54 rfl rfl ?_
              obtain ⟨r24, hRr24, hM⟩ := xbd hM
              refine xj_callV C [] [] 0 (c_X9_placeCost hRr24) gX9_pass_X9_placeCost rfl ⟨rfl, rfl⟩ hv_X9_placeCost ⟨Nat.le_of_ble_eq_true rfl, Nat.le_of_ble_eq_true rfl⟩ 24 (eY_24 ad k _) rfl rfl (Nat.le_of_ble_eq_true rfl) dX9_pass_55 ?_
              refine xj_istore C (L1 := [(4, .int (xi r24)), (0, .ref (ad 24)), (1, .int (xi v1)), (2, .int (xi p2)), (3, .int (xi v3))]) dX9_pass_58 (by decide) rfl ?_
              refine xj_aload_n C 1 dX9_pass_60 rfl rfl ?_
              refine xj_iload_n C 3 dX9_pass_61 rfl rfl ?_
              refine xj_iload_n C 4 dX9_pass_62 rfl rfl ?_
              obtain ⟨r25, hRr25, hM⟩ := xbd hM
              refine xj_callV C [.int (xi p2), .int (xi v3)] [] 2 (c_X9_exchange hRr25) gX9_pass_X9_exchange rfl ⟨rfl, rfl⟩ hv_X9_exchange ⟨Nat.le_of_ble_eq_true rfl, Nat.le_of_ble_eq_true rfl⟩ 24 (eY_24 ad k _) rfl rfl (Nat.le_of_ble_eq_true rfl) dX9_pass_63 ?_
              refine xj_aload_n C 1 dX9_pass_66 rfl rfl ?_
              obtain ⟨r26, hRr26, hM⟩ := xbd hM
              refine xj_callV C [] [] 0 (c_X9_placeCost hRr26) gX9_pass_X9_placeCost rfl ⟨rfl, rfl⟩ hv_X9_placeCost ⟨Nat.le_of_ble_eq_true rfl, Nat.le_of_ble_eq_true rfl⟩ 24 (eY_24 ad k _) rfl rfl (Nat.le_of_ble_eq_true rfl) dX9_pass_67 ?_
              refine xj_iload C 0 dX9_pass_70 rfl ?_
              obtain ⟨g27, hM⟩ := xck_some hM
              refine xj_icmp_ge C (tgt := 80) dX9_pass_72 (by decide) ⟨g27.1, g27.2⟩ (fun c28 => ?_) (fun c28 => ?_)
              · have hM := xit hM c28
                refine xj_aload_n C 1 dX9_pass_80 rfl rfl ?_
                refine xj_iload_n C 3 dX9_pass_81 rfl rfl ?_
                refine xj_iload_n C 4 dX9_pass_82 rfl rfl ?_
                obtain ⟨r29, hRr29, hM⟩ := xbd hM
                refine xj_callV C [.int (xi p2), .int (xi v3)] [] 2 (c_X9_exchange hRr29) gX9_pass_X9_exchange rfl ⟨rfl, rfl⟩ hv_X9_exchange ⟨Nat.le_of_ble_eq_true rfl, Nat.le_of_ble_eq_true rfl⟩ 24 (eY_24 ad k _) rfl rfl (Nat.le_of_ble_eq_true rfl) dX9_pass_83 ?_
                obtain rfl := Option.some.inj hM
                refine xj_loc C [1, 2, 3, 4] (L1 := [(0, .ref (ad 24)), (1, .int (xi v1)), (2, .int (xi p2)), (3, .int (xi v3))]) rfl ?_
                exact Kr6
              · have hM := xif hM c28
                refine xj_iconst C dX9_pass_75 ?_
                refine xj_istore_n C (L1 := [(1, .int (xi 1)), (4, .int (xi r24)), (0, .ref (ad 24)), (2, .int (xi p2)), (3, .int (xi v3))]) dX9_pass_76 rfl (by decide) rfl ?_
                refine xj_goto C (tgt := 86) dX9_pass_77 (by decide) ?_
                obtain rfl := Option.some.inj hM
                refine xj_loc C [2, 0, 3, 4] (L1 := [(0, .ref (ad 24)), (1, .int (xi 1)), (2, .int (xi p2)), (3, .int (xi v3))]) rfl ?_
                exact Kr6
set_option maxRecDepth 100000 in
set_option maxHeartbeats 4000000 in
theorem j_X9_pass_L4 {l : Launch} {D : va_G} {k : Nat → ClassId} {ad : Nat → Nat} {o : xO} {X : xX} (C : xC D k o X cX9_pass 5 RX9 wsX9_pass (some .boolean) rmX9_pass) : ∀ (n : Nat) (v1 : Int) (v2 : Int) (S : xS) (r : Int × xS), m_X9_pass_L4 n v1 v2 S = some r → (xJ l D k o X 5 98 [(1, .int (xi r.1))] [] (wY ad k r.2)) → xJ l D k o X 5 4 [(0, .ref (ad 24)), (1, .int (xi v1)), (2, .int (xi v2))] [] (wY ad k S) := by
  intro n
  induction n with
  | zero =>
    intro v1 v2 S r hM
    cases hM
  | succ n ih =>
    intro v1 v2 S r hM K
    unfold m_X9_pass_L4 at hM
    refine xj_iload_n C 2 dX9_pass_4 rfl rfl ?_
    refine xj_bipush C (n := 16) (by decide) dX9_pass_5 ?_
    obtain ⟨g1, hM⟩ := xck_some hM
    refine xj_icmp_ge C (tgt := 98) dX9_pass_7 (by decide) ⟨g1, (by decide)⟩ (fun c2 => ?_) (fun c2 => ?_)
    · have hM := xit hM c2
      obtain rfl := Option.some.inj hM
      refine xj_loc C [1] (L1 := [(1, .int (xi v1))]) rfl ?_
      exact K
    · have hM := xif hM c2
      refine xj_iload_n C 2 dX9_pass_10 rfl rfl ?_
      refine xj_iconst C dX9_pass_11 ?_
      refine xj_iadd C dX9_pass_12 ?_
      refine xj_istore_n C (L1 := [(3, .int (xi (v2 + 1))), (0, .ref (ad 24)), (1, .int (xi v1)), (2, .int (xi v2))]) dX9_pass_13 rfl (by decide) rfl ?_
      obtain ⟨r30, hLr30, hM⟩ := xbd hM
      refine xj_loc C [1, 2, 3, 0] (L1 := [(0, .ref (ad 24)), (1, .int (xi v1)), (2, .int (xi v2)), (3, .int (xi (v2 + 1)))]) rfl ?_
      refine j_X9_pass_L14 C v2 _ _ _ _ _ hLr30 ?_
      refine xj_iinc C 2 (L1 := [(2, .int (xi (v2 + 1))), (0, .ref (ad 24)), (1, .int (xi r30.1))]) dX9_pass_92 rfl (by decide) rfl ?_
      refine xj_goto C (tgt := 4) dX9_pass_95 (by decide) ?_
      refine xj_loc C [1, 2, 0] (L1 := [(0, .ref (ad 24)), (1, .int (xi r30.1)), (2, .int (xi (v2 + 1)))]) rfl ?_
      exact ih _ _ _ _ hM K
set_option maxRecDepth 100000 in
set_option maxHeartbeats 4000000 in
theorem c_X9_pass {l : Launch} {D : va_G} {k : Nat → ClassId} {ad : Nat → Nat} {S : xS} {res : Int × xS} (hM : m_X9_pass S = some res) : xM l yX9_pass wsX9_pass rmX9_pass D k [.ref (ad 24)] (wY ad k S) (some (.int (xi res.1))) (wY ad k res.2) := by
  refine xM_of (ret := (some .boolean)) (by decide) rfl (Nat.le_of_ble_eq_true rfl) (fun X C => ?_)
  have C : xC D k (xo X D k (some (.int (xi res.1))) (wY ad k res.2)) X cX9_pass 5 RX9 wsX9_pass (some .boolean) rmX9_pass := C
  show xJ l D k (xo X D k (some (.int (xi res.1))) (wY ad k res.2)) X 5 0 [(0, .ref (ad 24))] [] (wY ad k S)
  unfold m_X9_pass at hM
  refine xj_iconst C dX9_pass_0 ?_
  refine xj_istore_n C (L1 := [(1, .int (xi 0)), (0, .ref (ad 24))]) dX9_pass_1 rfl (by decide) rfl ?_
  refine xj_iconst C dX9_pass_2 ?_
  refine xj_istore_n C (L1 := [(2, .int (xi 0)), (1, .int (xi 0)), (0, .ref (ad 24))]) dX9_pass_3 rfl (by decide) rfl ?_
  obtain ⟨r31, hLr31, hM⟩ := xbd hM
  refine xj_loc C [2, 1, 0] (L1 := [(0, .ref (ad 24)), (1, .int (xi 0)), (2, .int (xi 0))]) rfl ?_
  refine j_X9_pass_L4 C _ _ _ _ _ hLr31 ?_
  refine xj_iload_n C 0 dX9_pass_98 rfl rfl ?_
  obtain ⟨g32, hM⟩ := xck_some hM
  obtain rfl := Option.some.inj hM
  exact xj_zret g32 C rfl dX9_pass_99
def rmX9_place : Room := { frames := 4, cells := 0, slots := 0, locals := 95 }
theorem hv_X9_place : yX9_place.cls = RX9 ∧ yX9_place.cls ≠ "java/lang/invoke/MethodHandle" ∧ yX9_place.cls ≠ "java/lang/invoke/VarHandle" ∧ (parseMethodDescriptor yX9_place.desc).map (fun d => d.parameters.length) = some 0 := by decide +kernel
def m_X9_place_L2 : Nat → Int → xS → Option (xS)
  | 0, _, _ => none
  | n + 1, v1, S => xck (xr v1) (if 16 ≤ v1 then some S else xck (0 ≤ v1 ∧ v1 < 16) (m_X9_place_L2 n (v1 + 1) (xup S 14 v1 (-1))))
def m_X9_place_L23 : Nat → Int → xS → Option (xS)
  | 0, _, _ => none
  | n + 1, v1, S => xck (xr v1 ∧ xr (S 50 0)) (if (S 50 0) ≤ v1 then some S else xck (0 ≤ v1 ∧ v1 < 10) ((xck (xr (S 10 v1)) (if (S 10 v1) < 0 then some S else (m_X9_put v1 (S 10 v1) S).bind (fun r11 => some r11))).bind (fun r8 => m_X9_place_L23 n (v1 + 1) r8)))
def m_X9_place_L69 (p1 : Int) (S : xS) : Nat → Int → Option (Int)
  | 0, _ => none
  | n + 1, v2 => xck (xr v2) (if 15 ≤ v2 then some v2 else xck (0 ≤ v2 ∧ v2 < 16) (xck (xr (S 14 v2)) (if (S 14 v2) < 0 then some v2 else m_X9_place_L69 p1 S n (v2 + 1))))
def m_X9_place_L59 : Nat → Int → xS → Option (xS)
  | 0, _, _ => none
  | n + 1, v1, S => xck (xr v1 ∧ xr (S 50 0)) (if (S 50 0) ≤ v1 then some S else (m_X9_place_L69 v1 S 2000 0).bind (fun r20 => xck (0 ≤ v1 ∧ v1 < 10) ((xck (xr (S 10 v1)) (if 0 ≤ (S 10 v1) then some S else (m_X9_put v1 r20 S).bind (fun r25 => some r25))).bind (fun r22 => m_X9_place_L59 n (v1 + 1) r22))))
def m_X9_place_L115 : Nat → Int → Int → xS → Option (xS)
  | 0, _, _, _ => none
  | n + 1, v1, v2, S => xck (xr v2) (if 20 ≤ v2 then some S else xck (xr v1) (if v1 = 0 then some S else (m_X9_pass S).bind (fun r31 => m_X9_place_L115 n r31.1 (v2 + 1) r31.2)))
def m_X9_place (S : xS) : Option (xS) := (m_X9_place_L2 2000 0 S).bind (fun r4 => (m_X9_place_L23 2000 0 r4).bind (fun r12 => (m_X9_place_L59 2000 0 r12).bind (fun r26 => (m_X9_place_L115 2000 1 0 r26).bind (fun r32 => some r32))))
set_option maxRecDepth 100000 in
set_option maxHeartbeats 4000000 in
theorem j_X9_place_L2 {l : Launch} {D : va_G} {k : Nat → ClassId} {ad : Nat → Nat} {o : xO} {X : xX} (C : xC D k o X cX9_place 3 RX9 wsX9_place none rmX9_place) : ∀ (n : Nat) (v1 : Int) (S : xS) (r : xS), m_X9_place_L2 n v1 S = some r → (xJ l D k o X 3 21 [(0, .ref (ad 24))] [] (wY ad k r)) → xJ l D k o X 3 2 [(0, .ref (ad 24)), (1, .int (xi v1))] [] (wY ad k S) := by
  intro n
  induction n with
  | zero =>
    intro v1 S r hM
    cases hM
  | succ n ih =>
    intro v1 S r hM K
    unfold m_X9_place_L2 at hM
    refine xj_iload_n C 1 dX9_place_2 rfl rfl ?_
    refine xj_bipush C (n := 16) (by decide) dX9_place_3 ?_
    obtain ⟨g1, hM⟩ := xck_some hM
    refine xj_icmp_ge C (tgt := 21) dX9_place_5 (by decide) ⟨g1, (by decide)⟩ (fun c2 => ?_) (fun c2 => ?_)
    · have hM := xit hM c2
      obtain rfl := Option.some.inj hM
      refine xj_loc C [0] (L1 := [(0, .ref (ad 24))]) rfl ?_
      exact K
    · have hM := xif hM c2
      refine xj_aload_n C 0 dX9_place_8 rfl rfl ?_
      refine xj_get C (fun _ h => List.mem_cons_of_mem _ (List.mem_append_right _ h)) 24 (eY_24 ad k S) rfl 17 (by decide) (List.mem_of_getElem? (i := 1) rfl) (fun _ _ h => h) rfl dX9_place_9 ?_
      refine xj_iload_n C 1 dX9_place_12 rfl rfl ?_
      refine xj_iconst C dX9_place_13 ?_
      obtain ⟨g3, hM⟩ := xck_some hM
      refine xj_iast C 14 S 14 (eY_14 ad k S) (Nat.le_of_ble_eq_true rfl) g3 (sY_14 ad k S v1 (-1)) dX9_place_14 ?_
      refine xj_iinc C 1 (L1 := [(1, .int (xi (v1 + 1))), (0, .ref (ad 24))]) dX9_place_15 rfl (by decide) rfl ?_
      refine xj_goto C (tgt := 2) dX9_place_18 (by decide) ?_
      refine xj_loc C [1, 0] (L1 := [(0, .ref (ad 24)), (1, .int (xi (v1 + 1)))]) rfl ?_
      exact ih _ _ _ hM K
set_option maxRecDepth 100000 in
set_option maxHeartbeats 4000000 in
theorem j_X9_place_L23 {l : Launch} {D : va_G} {k : Nat → ClassId} {ad : Nat → Nat} {o : xO} {X : xX} (C : xC D k o X cX9_place 3 RX9 wsX9_place none rmX9_place) : ∀ (n : Nat) (v1 : Int) (S : xS) (r : xS), m_X9_place_L23 n v1 S = some r → (xJ l D k o X 3 57 [(0, .ref (ad 24))] [] (wY ad k r)) → xJ l D k o X 3 23 [(0, .ref (ad 24)), (1, .int (xi v1))] [] (wY ad k S) := by
  intro n
  induction n with
  | zero =>
    intro v1 S r hM
    cases hM
  | succ n ih =>
    intro v1 S r hM K
    unfold m_X9_place_L23 at hM
    refine xj_iload_n C 1 dX9_place_23 rfl rfl ?_
    refine xj_aload_n C 0 dX9_place_24 rfl rfl ?_
    refine xj_get C (v := .int (xi (S 50 0))) (fun _ h => List.mem_cons_of_mem _ (List.mem_append_right _ h)) 24 (eY_24 ad k S) rfl 6 (by decide) (List.mem_of_getElem? (i := 2) rfl) (fun _ _ h => h) rfl dX9_place_25 ?_
    obtain ⟨g5, hM⟩ := xck_some hM
    refine xj_icmp_ge C (tgt := 57) dX9_place_28 (by decide) ⟨g5.1, g5.2⟩ (fun c6 => ?_) (fun c6 => ?_)
    · have hM := xit hM c6
      obtain rfl := Option.some.inj hM
      refine xj_loc C [0] (L1 := [(0, .ref (ad 24))]) rfl ?_
      exact K
    · have hM := xif hM c6
      refine xj_aload_n C 0 dX9_place_31 rfl rfl ?_
      refine xj_get C (fun _ h => List.mem_cons_of_mem _ (List.mem_append_right _ h)) 24 (eY_24 ad k S) rfl 11 (by decide) (List.mem_of_getElem? (i := 3) rfl) (fun _ _ h => h) rfl dX9_place_32 ?_
      refine xj_iload_n C 1 dX9_place_35 rfl rfl ?_
      obtain ⟨g7, hM⟩ := xck_some hM
      refine xj_iald C 10 S 10 (eY_10 ad k S) (Nat.le_of_ble_eq_true rfl) g7 dX9_place_36 ?_
      obtain ⟨r8, hRr8, hM⟩ := xbd hM
      have Kr8 : xJ l D k o X 3 51 [(0, .ref (ad 24)), (1, .int (xi v1))] [] (wY ad k r8) := by
        refine xj_iinc C 1 (L1 := [(1, .int (xi (v1 + 1))), (0, .ref (ad 24))]) dX9_place_51 rfl (by decide) rfl ?_
        refine xj_goto C (tgt := 23) dX9_place_54 (by decide) ?_
        refine xj_loc C [1, 0] (L1 := [(0, .ref (ad 24)), (1, .int (xi (v1 + 1)))]) rfl ?_
        exact ih _ _ _ hM K
      clear hM
      have hM := hRr8
      obtain ⟨g9, hM⟩ := xck_some hM
      refine xj_if_lt C (tgt := 51) dX9_place_37 (by decide) g9 (fun c10 => ?_) (fun c10 => ?_)
      · have hM := xit hM c10
        obtain rfl := Option.some.inj hM
        exact Kr8
      · have hM := xif hM c10
        refine xj_aload_n C 0 dX9_place_40 rfl rfl ?_
        refine xj_iload_n C 1 dX9_place_41 rfl rfl ?_
        refine xj_aload_n C 0 dX9_place_42 rfl rfl ?_
        refine xj_get C (fun _ h => List.mem_cons_of_mem _ (List.mem_append_right _ h)) 24 (eY_24 ad k S) rfl 11 (by decide) (List.mem_of_getElem? (i := 3) rfl) (fun _ _ h => h) rfl dX9_place_43 ?_
        refine xj_iload_n C 1 dX9_place_46 rfl rfl ?_
        refine xj_iald C 10 S 10 (eY_10 ad k S) (Nat.le_of_ble_eq_true rfl) g7 dX9_place_47 ?_
        obtain ⟨r11, hRr11, hM⟩ := xbd hM
        refine xj_callV C [.int (xi v1), .int (xi (S 10 v1))] [] 2 (c_X9_put hRr11) gX9_place_X9_put rfl ⟨rfl, rfl⟩ hv_X9_put ⟨Nat.le_of_ble_eq_true rfl, Nat.le_of_ble_eq_true rfl⟩ 24 (eY_24 ad k _) rfl rfl (Nat.le_of_ble_eq_true rfl) dX9_place_48 ?_
        obtain rfl := Option.some.inj hM
        exact Kr8
set_option maxRecDepth 100000 in
set_option maxHeartbeats 4000000 in
theorem j_X9_place_L69 {l : Launch} {D : va_G} {k : Nat → ClassId} {ad : Nat → Nat} {o : xO} {X : xX} (C : xC D k o X cX9_place 3 RX9 wsX9_place none rmX9_place) (p1 : Int) (S : xS) : ∀ (n : Nat) (v2 : Int) (r : Int), m_X9_place_L69 p1 S n v2 = some r → (xJ l D k o X 3 90 [(0, .ref (ad 24)), (1, .int (xi p1)), (2, .int (xi r))] [] (wY ad k S)) → xJ l D k o X 3 69 [(0, .ref (ad 24)), (1, .int (xi p1)), (2, .int (xi v2))] [] (wY ad k S) := by
  intro n
  induction n with
  | zero =>
    intro v2 r hM
    cases hM
  | succ n ih =>
    intro v2 r hM K
    unfold m_X9_place_L69 at hM
    refine xj_iload_n C 2 dX9_place_69 rfl rfl ?_
    refine xj_bipush C (n := 15) (by decide) dX9_place_70 ?_
    obtain ⟨g15, hM⟩ := xck_some hM
    refine xj_icmp_ge C (tgt := 90) dX9_place_72 (by decide) ⟨g15, (by decide)⟩ (fun c16 => ?_) (fun c16 => ?_)
    · have hM := xit hM c16
      obtain rfl := Option.some.inj hM
      exact K
    · have hM := xif hM c16
      refine xj_aload_n C 0 dX9_place_75 rfl rfl ?_
      refine xj_get C (fun _ h => List.mem_cons_of_mem _ (List.mem_append_right _ h)) 24 (eY_24 ad k S) rfl 17 (by decide) (List.mem_of_getElem? (i := 1) rfl) (fun _ _ h => h) rfl dX9_place_76 ?_
      refine xj_iload_n C 2 dX9_place_79 rfl rfl ?_
      obtain ⟨g17, hM⟩ := xck_some hM
      refine xj_iald C 14 S 14 (eY_14 ad k S) (Nat.le_of_ble_eq_true rfl) g17 dX9_place_80 ?_
      obtain ⟨g18, hM⟩ := xck_some hM
      refine xj_if_lt C (tgt := 90) dX9_place_81 (by decide) g18 (fun c19 => ?_) (fun c19 => ?_)
      · have hM := xit hM c19
        obtain rfl := Option.some.inj hM
        exact K
      · have hM := xif hM c19
        refine xj_iinc C 2 (L1 := [(2, .int (xi (v2 + 1))), (0, .ref (ad 24)), (1, .int (xi p1))]) dX9_place_84 rfl (by decide) rfl ?_
        refine xj_goto C (tgt := 69) dX9_place_87 (by decide) ?_
        refine xj_loc C [1, 2, 0] (L1 := [(0, .ref (ad 24)), (1, .int (xi p1)), (2, .int (xi (v2 + 1)))]) rfl ?_
        exact ih _ _ hM K
set_option maxRecDepth 100000 in
set_option maxHeartbeats 4000000 in
theorem j_X9_place_L59 {l : Launch} {D : va_G} {k : Nat → ClassId} {ad : Nat → Nat} {o : xO} {X : xX} (C : xC D k o X cX9_place 3 RX9 wsX9_place none rmX9_place) : ∀ (n : Nat) (v1 : Int) (S : xS) (r : xS), m_X9_place_L59 n v1 S = some r → (xJ l D k o X 3 111 [(0, .ref (ad 24))] [] (wY ad k r)) → xJ l D k o X 3 59 [(0, .ref (ad 24)), (1, .int (xi v1))] [] (wY ad k S) := by
  intro n
  induction n with
  | zero =>
    intro v1 S r hM
    cases hM
  | succ n ih =>
    intro v1 S r hM K
    unfold m_X9_place_L59 at hM
    refine xj_iload_n C 1 dX9_place_59 rfl rfl ?_
    refine xj_aload_n C 0 dX9_place_60 rfl rfl ?_
    refine xj_get C (v := .int (xi (S 50 0))) (fun _ h => List.mem_cons_of_mem _ (List.mem_append_right _ h)) 24 (eY_24 ad k S) rfl 6 (by decide) (List.mem_of_getElem? (i := 2) rfl) (fun _ _ h => h) rfl dX9_place_61 ?_
    obtain ⟨g13, hM⟩ := xck_some hM
    refine xj_icmp_ge C (tgt := 111) dX9_place_64 (by decide) ⟨g13.1, g13.2⟩ (fun c14 => ?_) (fun c14 => ?_)
    · have hM := xit hM c14
      obtain rfl := Option.some.inj hM
      refine xj_loc C [0] (L1 := [(0, .ref (ad 24))]) rfl ?_
      exact K
    · have hM := xif hM c14
      refine xj_iconst C dX9_place_67 ?_
      refine xj_istore_n C (L1 := [(2, .int (xi 0)), (0, .ref (ad 24)), (1, .int (xi v1))]) dX9_place_68 rfl (by decide) rfl ?_
      obtain ⟨r20, hLr20, hM⟩ := xbd hM
      refine xj_loc C [1, 2, 0] (L1 := [(0, .ref (ad 24)), (1, .int (xi v1)), (2, .int (xi 0))]) rfl ?_
      refine j_X9_place_L69 C v1 S _ _ _ hLr20 ?_
      refine xj_aload_n C 0 dX9_place_90 rfl rfl ?_
      refine xj_get C (fun _ h => List.mem_cons_of_mem _ (List.mem_append_right _ h)) 24 (eY_24 ad k S) rfl 11 (by decide) (List.mem_of_getElem? (i := 3) rfl) (fun _ _ h => h) rfl dX9_place_91 ?_
      refine xj_iload_n C 1 dX9_place_94 rfl rfl ?_
      obtain ⟨g21, hM⟩ := xck_some hM
      refine xj_iald C 10 S 10 (eY_10 ad k S) (Nat.le_of_ble_eq_true rfl) g21 dX9_place_95 ?_
      obtain ⟨r22, hRr22, hM⟩ := xbd hM
      have Kr22 : xJ l D k o X 3 105 [(0, .ref (ad 24)), (1, .int (xi v1))] [] (wY ad k r22) := by
        refine xj_iinc C 1 (L1 := [(1, .int (xi (v1 + 1))), (0, .ref (ad 24))]) dX9_place_105 rfl (by decide) rfl ?_
        refine xj_goto C (tgt := 59) dX9_place_108 (by decide) ?_
        refine xj_loc C [1, 0] (L1 := [(0, .ref (ad 24)), (1, .int (xi (v1 + 1)))]) rfl ?_
        exact ih _ _ _ hM K
      clear hM
      have hM := hRr22
      obtain ⟨g23, hM⟩ := xck_some hM
      refine xj_if_ge C (tgt := 105) dX9_place_96 (by decide) g23 (fun c24 => ?_) (fun c24 => ?_)
      · have hM := xit hM c24
        obtain rfl := Option.some.inj hM
        refine xj_loc C [0, 1] (L1 := [(0, .ref (ad 24)), (1, .int (xi v1))]) rfl ?_
        exact Kr22
      · have hM := xif hM c24
        refine xj_aload_n C 0 dX9_place_99 rfl rfl ?_
        refine xj_iload_n C 1 dX9_place_100 rfl rfl ?_
        refine xj_iload_n C 2 dX9_place_101 rfl rfl ?_
        obtain ⟨r25, hRr25, hM⟩ := xbd hM
        refine xj_callV C [.int (xi v1), .int (xi r20)] [] 2 (c_X9_put hRr25) gX9_place_X9_put rfl ⟨rfl, rfl⟩ hv_X9_put ⟨Nat.le_of_ble_eq_true rfl, Nat.le_of_ble_eq_true rfl⟩ 24 (eY_24 ad k _) rfl rfl (Nat.le_of_ble_eq_true rfl) dX9_place_102 ?_
        obtain rfl := Option.some.inj hM
        refine xj_loc C [0, 1] (L1 := [(0, .ref (ad 24)), (1, .int (xi v1))]) rfl ?_
        exact Kr22
set_option maxRecDepth 100000 in
set_option maxHeartbeats 4000000 in
theorem j_X9_place_L115 {l : Launch} {D : va_G} {k : Nat → ClassId} {ad : Nat → Nat} {o : xO} {X : xX} (C : xC D k o X cX9_place 3 RX9 wsX9_place none rmX9_place) : ∀ (n : Nat) (v1 : Int) (v2 : Int) (S : xS) (r : xS), m_X9_place_L115 n v1 v2 S = some r → (xJ l D k o X 3 136 [] [] (wY ad k r)) → xJ l D k o X 3 115 [(0, .ref (ad 24)), (1, .int (xi v1)), (2, .int (xi v2))] [] (wY ad k S) := by
  intro n
  induction n with
  | zero =>
    intro v1 v2 S r hM
    cases hM
  | succ n ih =>
    intro v1 v2 S r hM K
    unfold m_X9_place_L115 at hM
    refine xj_iload_n C 2 dX9_place_115 rfl rfl ?_
    refine xj_bipush C (n := 20) (by decide) dX9_place_116 ?_
    obtain ⟨g27, hM⟩ := xck_some hM
    refine xj_icmp_ge C (tgt := 136) dX9_place_118 (by decide) ⟨g27, (by decide)⟩ (fun c28 => ?_) (fun c28 => ?_)
    · have hM := xit hM c28
      obtain rfl := Option.some.inj hM
      refine xj_loc C [] (L1 := []) rfl ?_
      exact K
    · have hM := xif hM c28
      refine xj_iload_n C 1 dX9_place_121 rfl rfl ?_
      obtain ⟨g29, hM⟩ := xck_some hM
      refine xj_if_eq C (tgt := 136) dX9_place_122 (by decide) g29 (fun c30 => ?_) (fun c30 => ?_)
      · have hM := xit hM c30
        obtain rfl := Option.some.inj hM
        refine xj_loc C [] (L1 := []) rfl ?_
        exact K
      · have hM := xif hM c30
        refine xj_aload_n C 0 dX9_place_125 rfl rfl ?_
        obtain ⟨r31, hRr31, hM⟩ := xbd hM
        refine xj_callV C [] [] 0 (c_X9_pass hRr31) gX9_place_X9_pass rfl ⟨rfl, rfl⟩ hv_X9_pass ⟨Nat.le_of_ble_eq_true rfl, Nat.le_of_ble_eq_true rfl⟩ 24 (eY_24 ad k _) rfl rfl (Nat.le_of_ble_eq_true rfl) dX9_place_126 ?_
        refine xj_istore_n C (L1 := [(1, .int (xi r31.1)), (0, .ref (ad 24)), (2, .int (xi v2))]) dX9_place_129 rfl (by decide) rfl ?_
        refine xj_iinc C 2 (L1 := [(2, .int (xi (v2 + 1))), (1, .int (xi r31.1)), (0, .ref (ad 24))]) dX9_place_130 rfl (by decide) rfl ?_
        refine xj_goto C (tgt := 115) dX9_place_133 (by decide) ?_
        refine xj_loc C [2, 1, 0] (L1 := [(0, .ref (ad 24)), (1, .int (xi r31.1)), (2, .int (xi (v2 + 1)))]) rfl ?_
        exact ih _ _ _ _ hM K
set_option maxRecDepth 100000 in
set_option maxHeartbeats 4000000 in
theorem c_X9_place {l : Launch} {D : va_G} {k : Nat → ClassId} {ad : Nat → Nat} {S : xS} {res : xS} (hM : m_X9_place S = some res) : xM l yX9_place wsX9_place rmX9_place D k [.ref (ad 24)] (wY ad k S) none (wY ad k res) := by
  refine xM_of (ret := none) (by decide) rfl (Nat.le_of_ble_eq_true rfl) (fun X C => ?_)
  have C : xC D k (xo X D k none (wY ad k res)) X cX9_place 3 RX9 wsX9_place none rmX9_place := C
  show xJ l D k (xo X D k none (wY ad k res)) X 3 0 [(0, .ref (ad 24))] [] (wY ad k S)
  unfold m_X9_place at hM
  refine xj_iconst C dX9_place_0 ?_
  refine xj_istore_n C (L1 := [(1, .int (xi 0)), (0, .ref (ad 24))]) dX9_place_1 rfl (by decide) rfl ?_
  obtain ⟨r4, hLr4, hM⟩ := xbd hM
  refine xj_loc C [1, 0] (L1 := [(0, .ref (ad 24)), (1, .int (xi 0))]) rfl ?_
  refine j_X9_place_L2 C _ _ _ _ hLr4 ?_
  refine xj_iconst C dX9_place_21 ?_
  refine xj_istore_n C (L1 := [(1, .int (xi 0)), (0, .ref (ad 24))]) dX9_place_22 rfl (by decide) rfl ?_
  obtain ⟨r12, hLr12, hM⟩ := xbd hM
  refine xj_loc C [1, 0] (L1 := [(0, .ref (ad 24)), (1, .int (xi 0))]) rfl ?_
  refine j_X9_place_L23 C _ _ _ _ hLr12 ?_
  refine xj_iconst C dX9_place_57 ?_
  refine xj_istore_n C (L1 := [(1, .int (xi 0)), (0, .ref (ad 24))]) dX9_place_58 rfl (by decide) rfl ?_
  obtain ⟨r26, hLr26, hM⟩ := xbd hM
  refine xj_loc C [1, 0] (L1 := [(0, .ref (ad 24)), (1, .int (xi 0))]) rfl ?_
  refine j_X9_place_L59 C _ _ _ _ hLr26 ?_
  refine xj_iconst C dX9_place_111 ?_
  refine xj_istore_n C (L1 := [(1, .int (xi 1)), (0, .ref (ad 24))]) dX9_place_112 rfl (by decide) rfl ?_
  refine xj_iconst C dX9_place_113 ?_
  refine xj_istore_n C (L1 := [(2, .int (xi 0)), (1, .int (xi 1)), (0, .ref (ad 24))]) dX9_place_114 rfl (by decide) rfl ?_
  obtain ⟨r32, hLr32, hM⟩ := xbd hM
  refine xj_loc C [2, 1, 0] (L1 := [(0, .ref (ad 24)), (1, .int (xi 1)), (2, .int (xi 0))]) rfl ?_
  refine j_X9_place_L115 C _ _ _ _ _ hLr32 ?_
  obtain rfl := Option.some.inj hM
  exact xj_vret C rfl dX9_place_136
def rmX9_price : Room := { frames := 0, cells := 0, slots := 0, locals := 0 }
theorem hv_X9_price : yX9_price.cls = RX9 ∧ yX9_price.cls ≠ "java/lang/invoke/MethodHandle" ∧ yX9_price.cls ≠ "java/lang/invoke/VarHandle" ∧ (parseMethodDescriptor yX9_price.desc).map (fun d => d.parameters.length) = some 1 := by decide +kernel
def m_X9_price (p1 : Int) (S : xS) : Option (Int) := xck (0 ≤ p1 ∧ p1 < 148) (xck (xr (S 17 p1)) (if (S 17 p1) = 0 then some ((1 + (3 * (S 15 p1))) + (S 16 p1)) else some 0))
set_option maxRecDepth 100000 in
set_option maxHeartbeats 4000000 in
theorem c_X9_price {l : Launch} {D : va_G} {k : Nat → ClassId} {ad : Nat → Nat} {S : xS} {p1 : Int} {res : Int} (hM : m_X9_price p1 S = some res) : xM l yX9_price wsX9_price rmX9_price D k [.ref (ad 24), .int (xi p1)] (wY ad k S) (some (.int (xi res))) (wY ad k S) := by
  refine xM_of (ret := (some .int)) (by decide) rfl (Nat.le_of_ble_eq_true rfl) (fun X C => ?_)
  have C : xC D k (xo X D k (some (.int (xi res))) (wY ad k S)) X cX9_price 2 RX9 wsX9_price (some .int) rmX9_price := C
  show xJ l D k (xo X D k (some (.int (xi res))) (wY ad k S)) X 2 0 [(0, .ref (ad 24)), (1, .int (xi p1))] [] (wY ad k S)
  unfold m_X9_price at hM
  refine xj_aload_n C 0 dX9_price_0 rfl rfl ?_
  refine xj_get C (fun _ h => List.mem_cons_of_mem _ (List.mem_append_right _ h)) 24 (eY_24 ad k S) rfl 20 (by decide) (List.mem_of_getElem? (i := 1) rfl) (fun _ _ h => h) rfl dX9_price_1 ?_
  refine xj_iload_n C 1 dX9_price_4 rfl rfl ?_
  obtain ⟨g1, hM⟩ := xck_some hM
  refine xj_zald C 17 S 17 (eY_17 ad k S) (Nat.le_of_ble_eq_true rfl) g1 dX9_price_5 ?_
  obtain ⟨g2, hM⟩ := xck_some hM
  refine xj_if_eq C (tgt := 13) dX9_price_6 (by decide) g2 (fun c3 => ?_) (fun c3 => ?_)
  · have hM := xit hM c3
    refine xj_iconst C dX9_price_13 ?_
    refine xj_iconst C dX9_price_14 ?_
    refine xj_aload_n C 0 dX9_price_15 rfl rfl ?_
    refine xj_get C (fun _ h => List.mem_cons_of_mem _ (List.mem_append_right _ h)) 24 (eY_24 ad k S) rfl 18 (by decide) (List.mem_of_getElem? (i := 2) rfl) (fun _ _ h => h) rfl dX9_price_16 ?_
    refine xj_iload_n C 1 dX9_price_19 rfl rfl ?_
    refine xj_iald C 15 S 15 (eY_15 ad k S) (Nat.le_of_ble_eq_true rfl) g1 dX9_price_20 ?_
    refine xj_imul C dX9_price_21 ?_
    refine xj_iadd C dX9_price_22 ?_
    refine xj_aload_n C 0 dX9_price_23 rfl rfl ?_
    refine xj_get C (fun _ h => List.mem_cons_of_mem _ (List.mem_append_right _ h)) 24 (eY_24 ad k S) rfl 19 (by decide) (List.mem_of_getElem? (i := 3) rfl) (fun _ _ h => h) rfl dX9_price_24 ?_
    refine xj_iload_n C 1 dX9_price_27 rfl rfl ?_
    refine xj_iald C 16 S 16 (eY_16 ad k S) (Nat.le_of_ble_eq_true rfl) g1 dX9_price_28 ?_
    refine xj_iadd C dX9_price_29 ?_
    obtain rfl := Option.some.inj hM
    exact xj_iret C rfl dX9_price_30
  · have hM := xif hM c3
    refine xj_iconst C dX9_price_9 ?_
    refine xj_goto C (tgt := 30) dX9_price_10 (by decide) ?_
    obtain rfl := Option.some.inj hM
    exact xj_iret C rfl dX9_price_30
def rmX9_leastBehind : Room := { frames := 3, cells := 0, slots := 0, locals := 70 }
theorem hv_X9_leastBehind : yX9_leastBehind.cls = RX9 ∧ yX9_leastBehind.cls ≠ "java/lang/invoke/MethodHandle" ∧ yX9_leastBehind.cls ≠ "java/lang/invoke/VarHandle" ∧ (parseMethodDescriptor yX9_leastBehind.desc).map (fun d => d.parameters.length) = some 1 := by decide +kernel
def m_X9_leastBehind_L5 (p1 : Int) (S : xS) : Nat → Int → Int → Option (Int)
  | 0, _, _ => none
  | n + 1, v2, v3 => xck (xr v3) (if 5 ≤ v3 then some v2 else (m_X9_behindChannel p1 v3).bind (fun r3 => (xck (xr r3) (if r3 < 0 then some v2 else ((if 0 ≤ r3 then some r3 else some 0)).bind (fun r7 => xck (0 ≤ r7 ∧ r7 < 148) (xck (xr (S 18 r7) ∧ xr v2) (if v2 ≤ (S 18 r7) then some v2 else xck (0 ≤ r3 ∧ r3 < 148) (some (S 18 r3))))))).bind (fun r4 => m_X9_leastBehind_L5 p1 S n r4 (v3 + 1))))
def m_X9_leastBehind (p1 : Int) (S : xS) : Option (Int) := (m_X9_leastBehind_L5 p1 S 2000 1000000 1).bind (fun r13 => some r13)
set_option maxRecDepth 100000 in
set_option maxHeartbeats 4000000 in
theorem j_X9_leastBehind_L5 {l : Launch} {D : va_G} {k : Nat → ClassId} {ad : Nat → Nat} {o : xO} {X : xX} (C : xC D k o X cX9_leastBehind 5 RX9 wsX9_leastBehind (some .int) rmX9_leastBehind) (p1 : Int) (S : xS) : ∀ (n : Nat) (v2 : Int) (v3 : Int) (r : Int), m_X9_leastBehind_L5 p1 S n v2 v3 = some r → (xJ l D k o X 5 56 [(2, .int (xi r))] [] (wY ad k S)) → xJ l D k o X 5 5 [(0, .ref (ad 24)), (1, .int (xi p1)), (2, .int (xi v2)), (3, .int (xi v3))] [] (wY ad k S) := by
  intro n
  induction n with
  | zero =>
    intro v2 v3 r hM
    cases hM
  | succ n ih =>
    intro v2 v3 r hM K
    unfold m_X9_leastBehind_L5 at hM
    refine xj_iload_n C 3 dX9_leastBehind_5 rfl rfl ?_
    refine xj_iconst C dX9_leastBehind_6 ?_
    obtain ⟨g1, hM⟩ := xck_some hM
    refine xj_icmp_ge C (tgt := 56) dX9_leastBehind_7 (by decide) ⟨g1, (by decide)⟩ (fun c2 => ?_) (fun c2 => ?_)
    · have hM := xit hM c2
      obtain rfl := Option.some.inj hM
      refine xj_loc C [2] (L1 := [(2, .int (xi v2))]) rfl ?_
      exact K
    · have hM := xif hM c2
      refine xj_iload_n C 1 dX9_leastBehind_10 rfl rfl ?_
      refine xj_iload_n C 3 dX9_leastBehind_11 rfl rfl ?_
      obtain ⟨r3, hRr3, hM⟩ := xbd hM
      refine xj_callS C [.int (xi p1), .int (xi v3)] [] 2 (c_X9_behindChannel hRr3) gX9_leastBehind_X9_behindChannel rfl ⟨rfl, rfl⟩ hv_X9_behindChannel ⟨Nat.le_of_ble_eq_true rfl, Nat.le_of_ble_eq_true rfl⟩ rfl (Nat.le_of_ble_eq_true rfl) dX9_leastBehind_12 ?_
      refine xj_istore C (L1 := [(4, .int (xi r3)), (0, .ref (ad 24)), (1, .int (xi p1)), (2, .int (xi v2)), (3, .int (xi v3))]) dX9_leastBehind_15 (by decide) rfl ?_
      refine xj_iload C 0 dX9_leastBehind_17 rfl ?_
      obtain ⟨r4, hRr4, hM⟩ := xbd hM
      have Kr4 : xJ l D k o X 5 50 [(0, .ref (ad 24)), (1, .int (xi p1)), (2, .int (xi r4)), (3, .int (xi v3))] [] (wY ad k S) := by
        refine xj_iinc C 3 (L1 := [(3, .int (xi (v3 + 1))), (0, .ref (ad 24)), (1, .int (xi p1)), (2, .int (xi r4))]) dX9_leastBehind_50 rfl (by decide) rfl ?_
        refine xj_goto C (tgt := 5) dX9_leastBehind_53 (by decide) ?_
        refine xj_loc C [1, 2, 3, 0] (L1 := [(0, .ref (ad 24)), (1, .int (xi p1)), (2, .int (xi r4)), (3, .int (xi (v3 + 1)))]) rfl ?_
        exact ih _ _ _ hM K
      clear hM
      have hM := hRr4
      obtain ⟨g5, hM⟩ := xck_some hM
      refine xj_if_lt C (tgt := 50) dX9_leastBehind_19 (by decide) g5 (fun c6 => ?_) (fun c6 => ?_)
      · have hM := xit hM c6
        obtain rfl := Option.some.inj hM
        refine xj_loc C [1, 2, 3, 4] (L1 := [(0, .ref (ad 24)), (1, .int (xi p1)), (2, .int (xi v2)), (3, .int (xi v3))]) rfl ?_
        exact Kr4
      · have hM := xif hM c6
        refine xj_aload_n C 1 dX9_leastBehind_22 rfl rfl ?_
        refine xj_get C (fun _ h => List.mem_cons_of_mem _ (List.mem_append_right _ h)) 24 (eY_24 ad k S) rfl 21 (by decide) (List.mem_of_getElem? (i := 2) rfl) (fun _ _ h => h) rfl dX9_leastBehind_23 ?_
        refine xj_iload C 0 dX9_leastBehind_26 rfl ?_
        obtain ⟨r7, hRr7, hM⟩ := xbd hM
        have Kr7 : xJ l D k o X 5 37 [(0, .ref (ad 24)), (1, .int (xi p1)), (2, .int (xi v2)), (3, .int (xi v3)), (4, .int (xi r3))] [.int (xi r7), .ref (ad 18)] (wY ad k S) := by
          obtain ⟨g9, hM⟩ := xck_some hM
          refine xj_iald C 18 S 18 (eY_18 ad k S) (Nat.le_of_ble_eq_true rfl) g9 dX9_leastBehind_37 ?_
          refine xj_iload_n C 2 dX9_leastBehind_38 rfl rfl ?_
          obtain ⟨g10, hM⟩ := xck_some hM
          refine xj_icmp_ge C (tgt := 50) dX9_leastBehind_39 (by decide) ⟨g10.1, g10.2⟩ (fun c11 => ?_) (fun c11 => ?_)
          · have hM := xit hM c11
            obtain rfl := Option.some.inj hM
            refine xj_loc C [0, 1, 2, 3] (L1 := [(0, .ref (ad 24)), (1, .int (xi p1)), (2, .int (xi v2)), (3, .int (xi v3))]) rfl ?_
            exact Kr4
          · have hM := xif hM c11
            refine xj_aload_n C 0 dX9_leastBehind_42 rfl rfl ?_
            refine xj_get C (fun _ h => List.mem_cons_of_mem _ (List.mem_append_right _ h)) 24 (eY_24 ad k S) rfl 21 (by decide) (List.mem_of_getElem? (i := 2) rfl) (fun _ _ h => h) rfl dX9_leastBehind_43 ?_
            refine xj_iload C 4 dX9_leastBehind_46 rfl ?_
            obtain ⟨g12, hM⟩ := xck_some hM
            refine xj_iald C 18 S 18 (eY_18 ad k S) (Nat.le_of_ble_eq_true rfl) g12 dX9_leastBehind_48 ?_
            refine xj_istore_n C (L1 := [(2, .int (xi (S 18 r3))), (0, .ref (ad 24)), (1, .int (xi p1)), (3, .int (xi v3)), (4, .int (xi r3))]) dX9_leastBehind_49 rfl (by decide) rfl ?_
            obtain rfl := Option.some.inj hM
            refine xj_loc C [1, 2, 0, 3] (L1 := [(0, .ref (ad 24)), (1, .int (xi p1)), (2, .int (xi (S 18 r3))), (3, .int (xi v3))]) rfl ?_
            exact Kr4
        clear hM
        have hM := hRr7
        refine xj_if_ge C (tgt := 35) dX9_leastBehind_28 (by decide) g5 (fun c8 => ?_) (fun c8 => ?_)
        · have hM := xit hM c8
          refine xj_iload C 0 dX9_leastBehind_35 rfl ?_
          obtain rfl := Option.some.inj hM
          refine xj_loc C [1, 2, 3, 4, 0] (L1 := [(0, .ref (ad 24)), (1, .int (xi p1)), (2, .int (xi v2)), (3, .int (xi v3)), (4, .int (xi r3))]) rfl ?_
          exact Kr7
        · have hM := xif hM c8
          refine xj_iconst C dX9_leastBehind_31 ?_
          refine xj_goto C (tgt := 37) dX9_leastBehind_32 (by decide) ?_
          obtain rfl := Option.some.inj hM
          refine xj_loc C [1, 2, 3, 4, 0] (L1 := [(0, .ref (ad 24)), (1, .int (xi p1)), (2, .int (xi v2)), (3, .int (xi v3)), (4, .int (xi r3))]) rfl ?_
          exact Kr7
set_option maxRecDepth 100000 in
set_option maxHeartbeats 4000000 in
theorem c_X9_leastBehind {l : Launch} {D : va_G} {k : Nat → ClassId} {ad : Nat → Nat} {S : xS} {p1 : Int} {res : Int} (hM : m_X9_leastBehind p1 S = some res) : xM l yX9_leastBehind wsX9_leastBehind rmX9_leastBehind D k [.ref (ad 24), .int (xi p1)] (wY ad k S) (some (.int (xi res))) (wY ad k S) := by
  refine xM_of (ret := (some .int)) (by decide) rfl (Nat.le_of_ble_eq_true rfl) (fun X C => ?_)
  have C : xC D k (xo X D k (some (.int (xi res))) (wY ad k S)) X cX9_leastBehind 5 RX9 wsX9_leastBehind (some .int) rmX9_leastBehind := C
  show xJ l D k (xo X D k (some (.int (xi res))) (wY ad k S)) X 5 0 [(0, .ref (ad 24)), (1, .int (xi p1))] [] (wY ad k S)
  unfold m_X9_leastBehind at hM
  refine xj_ldc C (n := 1000000) (List.mem_of_getElem? (i := 1) rfl) (by decide) dX9_leastBehind_0 ?_
  refine xj_istore_n C (L1 := [(2, .int (xi 1000000)), (0, .ref (ad 24)), (1, .int (xi p1))]) dX9_leastBehind_2 rfl (by decide) rfl ?_
  refine xj_iconst C dX9_leastBehind_3 ?_
  refine xj_istore_n C (L1 := [(3, .int (xi 1)), (2, .int (xi 1000000)), (0, .ref (ad 24)), (1, .int (xi p1))]) dX9_leastBehind_4 rfl (by decide) rfl ?_
  obtain ⟨r13, hLr13, hM⟩ := xbd hM
  refine xj_loc C [2, 3, 1, 0] (L1 := [(0, .ref (ad 24)), (1, .int (xi p1)), (2, .int (xi 1000000)), (3, .int (xi 1))]) rfl ?_
  refine j_X9_leastBehind_L5 C p1 S _ _ _ _ hLr13 ?_
  refine xj_iload_n C 0 dX9_leastBehind_56 rfl rfl ?_
  obtain rfl := Option.some.inj hM
  exact xj_iret C rfl dX9_leastBehind_57
def rmX9_relax : Room := { frames := 4, cells := 0, slots := 0, locals := 94 }
theorem hv_X9_relax : yX9_relax.cls = RX9 ∧ yX9_relax.cls ≠ "java/lang/invoke/MethodHandle" ∧ yX9_relax.cls ≠ "java/lang/invoke/VarHandle" ∧ (parseMethodDescriptor yX9_relax.desc).map (fun d => d.parameters.length) = some 0 := by decide +kernel
def m_X9_relax_L2 : Nat → Int → xS → Option (xS)
  | 0, _, _ => none
  | n + 1, v1, S => xck (xr v1) (if 148 ≤ v1 then some S else xck (0 ≤ v1 ∧ v1 < 148) ((xck (xr (S 17 v1)) (if (S 17 v1) = 0 then some 1000000 else some 0)).bind (fun r4 => m_X9_relax_L2 n (v1 + 1) (xup S 18 v1 r4))))
def m_X9_relax_L46 : Nat → Int → Int → xS → Option (Int × xS)
  | 0, _, _, _ => none
  | n + 1, v1, v2, S => xck (xr v2) (if 128 ≤ v2 then some (v1, S) else (m_X9_wireOf v2).bind (fun r12 => (m_X9_leastBehind v2 S).bind (fun r13 => (m_X9_price r12 S).bind (fun r14 => xck (0 ≤ r12 ∧ r12 < 148) ((xck (xr (r13 + r14) ∧ xr (S 18 r12)) (if (S 18 r12) ≤ (r13 + r14) then some (v1, S) else some (1, (xup S 18 r12 (r13 + r14))))).bind (fun r16 => m_X9_relax_L46 n r16.1 (v2 + 1) r16.2))))))
def m_X9_relax_L38 : Nat → Int → xS → Option (xS)
  | 0, _, _ => none
  | n + 1, v1, S => xck (xr v1) (if v1 = 0 then some S else (m_X9_relax_L46 2000 0 0 S).bind (fun r19 => m_X9_relax_L38 n r19.1 r19.2))
def m_X9_relax (S : xS) : Option (xS) := (m_X9_relax_L2 2000 0 S).bind (fun r7 => (m_X9_relax_L38 1099511627776 1 r7).bind (fun r20 => some r20))
set_option maxRecDepth 100000 in
set_option maxHeartbeats 4000000 in
theorem j_X9_relax_L2 {l : Launch} {D : va_G} {k : Nat → ClassId} {ad : Nat → Nat} {o : xO} {X : xX} (C : xC D k o X cX9_relax 5 RX9 wsX9_relax none rmX9_relax) : ∀ (n : Nat) (v1 : Int) (S : xS) (r : xS), m_X9_relax_L2 n v1 S = some r → (xJ l D k o X 5 36 [(0, .ref (ad 24))] [] (wY ad k r)) → xJ l D k o X 5 2 [(0, .ref (ad 24)), (1, .int (xi v1))] [] (wY ad k S) := by
  intro n
  induction n with
  | zero =>
    intro v1 S r hM
    cases hM
  | succ n ih =>
    intro v1 S r hM K
    unfold m_X9_relax_L2 at hM
    refine xj_iload_n C 1 dX9_relax_2 rfl rfl ?_
    refine xj_sipush C (n := 148) (by decide) dX9_relax_3 ?_
    obtain ⟨g1, hM⟩ := xck_some hM
    refine xj_icmp_ge C (tgt := 36) dX9_relax_6 (by decide) ⟨g1, (by decide)⟩ (fun c2 => ?_) (fun c2 => ?_)
    · have hM := xit hM c2
      obtain rfl := Option.some.inj hM
      refine xj_loc C [0] (L1 := [(0, .ref (ad 24))]) rfl ?_
      exact K
    · have hM := xif hM c2
      refine xj_aload_n C 0 dX9_relax_9 rfl rfl ?_
      refine xj_get C (fun _ h => List.mem_cons_of_mem _ (List.mem_append_right _ h)) 24 (eY_24 ad k S) rfl 21 (by decide) (List.mem_of_getElem? (i := 1) rfl) (fun _ _ h => h) rfl dX9_relax_10 ?_
      refine xj_iload_n C 1 dX9_relax_13 rfl rfl ?_
      refine xj_aload_n C 0 dX9_relax_14 rfl rfl ?_
      refine xj_get C (fun _ h => List.mem_cons_of_mem _ (List.mem_append_right _ h)) 24 (eY_24 ad k S) rfl 20 (by decide) (List.mem_of_getElem? (i := 2) rfl) (fun _ _ h => h) rfl dX9_relax_15 ?_
      refine xj_iload_n C 1 dX9_relax_18 rfl rfl ?_
      obtain ⟨g3, hM⟩ := xck_some hM
      refine xj_zald C 17 S 17 (eY_17 ad k S) (Nat.le_of_ble_eq_true rfl) g3 dX9_relax_19 ?_
      obtain ⟨r4, hRr4, hM⟩ := xbd hM
      have Kr4 : xJ l D k o X 5 29 [(0, .ref (ad 24)), (1, .int (xi v1))] [.int (xi r4), .int (xi v1), .ref (ad 18)] (wY ad k S) := by
        refine xj_iast C 18 S 18 (eY_18 ad k S) (Nat.le_of_ble_eq_true rfl) g3 (sY_18 ad k S v1 r4) dX9_relax_29 ?_
        refine xj_iinc C 1 (L1 := [(1, .int (xi (v1 + 1))), (0, .ref (ad 24))]) dX9_relax_30 rfl (by decide) rfl ?_
        refine xj_goto C (tgt := 2) dX9_relax_33 (by decide) ?_
        refine xj_loc C [1, 0] (L1 := [(0, .ref (ad 24)), (1, .int (xi (v1 + 1)))]) rfl ?_
        exact ih _ _ _ hM K
      clear hM
      have hM := hRr4
      obtain ⟨g5, hM⟩ := xck_some hM
      refine xj_if_eq C (tgt := 27) dX9_relax_20 (by decide) g5 (fun c6 => ?_) (fun c6 => ?_)
      · have hM := xit hM c6
        refine xj_ldc C (n := 1000000) (List.mem_of_getElem? (i := 3) rfl) (by decide) dX9_relax_27 ?_
        obtain rfl := Option.some.inj hM
        exact Kr4
      · have hM := xif hM c6
        refine xj_iconst C dX9_relax_23 ?_
        refine xj_goto C (tgt := 29) dX9_relax_24 (by decide) ?_
        obtain rfl := Option.some.inj hM
        exact Kr4
set_option maxRecDepth 100000 in
set_option maxHeartbeats 4000000 in
theorem j_X9_relax_L46 {l : Launch} {D : va_G} {k : Nat → ClassId} {ad : Nat → Nat} {o : xO} {X : xX} (C : xC D k o X cX9_relax 5 RX9 wsX9_relax none rmX9_relax) : ∀ (n : Nat) (v1 : Int) (v2 : Int) (S : xS) (r : Int × xS), m_X9_relax_L46 n v1 v2 S = some r → (xJ l D k o X 5 98 [(0, .ref (ad 24)), (1, .int (xi r.1))] [] (wY ad k r.2)) → xJ l D k o X 5 46 [(0, .ref (ad 24)), (1, .int (xi v1)), (2, .int (xi v2))] [] (wY ad k S) := by
  intro n
  induction n with
  | zero =>
    intro v1 v2 S r hM
    cases hM
  | succ n ih =>
    intro v1 v2 S r hM K
    unfold m_X9_relax_L46 at hM
    refine xj_iload_n C 2 dX9_relax_46 rfl rfl ?_
    refine xj_sipush C (n := 128) (by decide) dX9_relax_47 ?_
    obtain ⟨g10, hM⟩ := xck_some hM
    refine xj_icmp_ge C (tgt := 98) dX9_relax_50 (by decide) ⟨g10, (by decide)⟩ (fun c11 => ?_) (fun c11 => ?_)
    · have hM := xit hM c11
      obtain rfl := Option.some.inj hM
      refine xj_loc C [0, 1] (L1 := [(0, .ref (ad 24)), (1, .int (xi v1))]) rfl ?_
      exact K
    · have hM := xif hM c11
      refine xj_iload_n C 2 dX9_relax_53 rfl rfl ?_
      obtain ⟨r12, hRr12, hM⟩ := xbd hM
      refine xj_callS C [.int (xi v2)] [] 1 (c_X9_wireOf hRr12) gX9_relax_X9_wireOf rfl ⟨rfl, rfl⟩ hv_X9_wireOf ⟨Nat.le_of_ble_eq_true rfl, Nat.le_of_ble_eq_true rfl⟩ rfl (Nat.le_of_ble_eq_true rfl) dX9_relax_54 ?_
      refine xj_istore_n C (L1 := [(3, .int (xi r12)), (0, .ref (ad 24)), (1, .int (xi v1)), (2, .int (xi v2))]) dX9_relax_57 rfl (by decide) rfl ?_
      refine xj_aload_n C 1 dX9_relax_58 rfl rfl ?_
      refine xj_iload_n C 3 dX9_relax_59 rfl rfl ?_
      obtain ⟨r13, hRr13, hM⟩ := xbd hM
      refine xj_callV C [.int (xi v2)] [] 1 (c_X9_leastBehind hRr13) gX9_relax_X9_leastBehind rfl ⟨rfl, rfl⟩ hv_X9_leastBehind ⟨Nat.le_of_ble_eq_true rfl, Nat.le_of_ble_eq_true rfl⟩ 24 (eY_24 ad k _) rfl rfl (Nat.le_of_ble_eq_true rfl) dX9_relax_60 ?_
      refine xj_aload_n C 1 dX9_relax_63 rfl rfl ?_
      refine xj_iload_n C 0 dX9_relax_64 rfl rfl ?_
      obtain ⟨r14, hRr14, hM⟩ := xbd hM
      refine xj_callV C [.int (xi r12)] [.int (xi r13)] 1 (c_X9_price hRr14) gX9_relax_X9_price rfl ⟨rfl, rfl⟩ hv_X9_price ⟨Nat.le_of_ble_eq_true rfl, Nat.le_of_ble_eq_true rfl⟩ 24 (eY_24 ad k _) rfl rfl (Nat.le_of_ble_eq_true rfl) dX9_relax_65 ?_
      refine xj_iadd C dX9_relax_68 ?_
      refine xj_istore C (L1 := [(4, .int (xi (r13 + r14))), (3, .int (xi r12)), (0, .ref (ad 24)), (1, .int (xi v1)), (2, .int (xi v2))]) dX9_relax_69 (by decide) rfl ?_
      refine xj_iload C 0 dX9_relax_71 rfl ?_
      refine xj_aload_n C 2 dX9_relax_73 rfl rfl ?_
      refine xj_get C (fun _ h => List.mem_cons_of_mem _ (List.mem_append_right _ h)) 24 (eY_24 ad k S) rfl 21 (by decide) (List.mem_of_getElem? (i := 1) rfl) (fun _ _ h => h) rfl dX9_relax_74 ?_
      refine xj_iload_n C 1 dX9_relax_77 rfl rfl ?_
      obtain ⟨g15, hM⟩ := xck_some hM
      refine xj_iald C 18 S 18 (eY_18 ad k S) (Nat.le_of_ble_eq_true rfl) g15 dX9_relax_78 ?_
      obtain ⟨r16, hRr16, hM⟩ := xbd hM
      have Kr16 : xJ l D k o X 5 92 [(0, .ref (ad 24)), (1, .int (xi r16.1)), (2, .int (xi v2))] [] (wY ad k r16.2) := by
        refine xj_iinc C 2 (L1 := [(2, .int (xi (v2 + 1))), (0, .ref (ad 24)), (1, .int (xi r16.1))]) dX9_relax_92 rfl (by decide) rfl ?_
        refine xj_goto C (tgt := 46) dX9_relax_95 (by decide) ?_
        refine xj_loc C [1, 2, 0] (L1 := [(0, .ref (ad 24)), (1, .int (xi r16.1)), (2, .int (xi (v2 + 1)))]) rfl ?_
        exact ih _ _ _ _ hM K
      clear hM
      have hM := hRr16
      obtain ⟨g17, hM⟩ := xck_some hM
      refine xj_icmp_ge C (tgt := 92) dX9_relax_79 (by decide) ⟨g17.1, g17.2⟩ (fun c18 => ?_) (fun c18 => ?_)
      · have hM := xit hM c18
        obtain rfl := Option.some.inj hM
        refine xj_loc C [2, 3, 4] (L1 := [(0, .ref (ad 24)), (1, .int (xi v1)), (2, .int (xi v2))]) rfl ?_
        exact Kr16
      · have hM := xif hM c18
        refine xj_aload_n C 2 dX9_relax_82 rfl rfl ?_
        refine xj_get C (fun _ h => List.mem_cons_of_mem _ (List.mem_append_right _ h)) 24 (eY_24 ad k S) rfl 21 (by decide) (List.mem_of_getElem? (i := 1) rfl) (fun _ _ h => h) rfl dX9_relax_83 ?_
        refine xj_iload_n C 1 dX9_relax_86 rfl rfl ?_
        refine xj_iload C 0 dX9_relax_87 rfl ?_
        refine xj_iast C 18 S 18 (eY_18 ad k S) (Nat.le_of_ble_eq_true rfl) g15 (sY_18 ad k S r12 (r13 + r14)) dX9_relax_89 ?_
        refine xj_iconst C dX9_relax_90 ?_
        refine xj_istore_n C (L1 := [(1, .int (xi 1)), (4, .int (xi (r13 + r14))), (3, .int (xi r12)), (0, .ref (ad 24)), (2, .int (xi v2))]) dX9_relax_91 rfl (by decide) rfl ?_
        obtain rfl := Option.some.inj hM
        refine xj_loc C [3, 0, 4] (L1 := [(0, .ref (ad 24)), (1, .int (xi 1)), (2, .int (xi v2))]) rfl ?_
        exact Kr16
set_option maxRecDepth 100000 in
set_option maxHeartbeats 4000000 in
theorem j_X9_relax_L38 {l : Launch} {D : va_G} {k : Nat → ClassId} {ad : Nat → Nat} {o : xO} {X : xX} (C : xC D k o X cX9_relax 5 RX9 wsX9_relax none rmX9_relax) : ∀ (n : Nat) (v1 : Int) (S : xS) (r : xS), m_X9_relax_L38 n v1 S = some r → (xJ l D k o X 5 101 [] [] (wY ad k r)) → xJ l D k o X 5 38 [(0, .ref (ad 24)), (1, .int (xi v1))] [] (wY ad k S) := by
  intro n
  induction n with
  | zero =>
    intro v1 S r hM
    cases hM
  | succ n ih =>
    intro v1 S r hM K
    unfold m_X9_relax_L38 at hM
    refine xj_iload_n C 1 dX9_relax_38 rfl rfl ?_
    obtain ⟨g8, hM⟩ := xck_some hM
    refine xj_if_eq C (tgt := 101) dX9_relax_39 (by decide) g8 (fun c9 => ?_) (fun c9 => ?_)
    · have hM := xit hM c9
      obtain rfl := Option.some.inj hM
      refine xj_loc C [] (L1 := []) rfl ?_
      exact K
    · have hM := xif hM c9
      refine xj_iconst C dX9_relax_42 ?_
      refine xj_istore_n C (L1 := [(1, .int (xi 0)), (0, .ref (ad 24))]) dX9_relax_43 rfl (by decide) rfl ?_
      refine xj_iconst C dX9_relax_44 ?_
      refine xj_istore_n C (L1 := [(2, .int (xi 0)), (1, .int (xi 0)), (0, .ref (ad 24))]) dX9_relax_45 rfl (by decide) rfl ?_
      obtain ⟨r19, hLr19, hM⟩ := xbd hM
      refine xj_loc C [2, 1, 0] (L1 := [(0, .ref (ad 24)), (1, .int (xi 0)), (2, .int (xi 0))]) rfl ?_
      refine j_X9_relax_L46 C _ _ _ _ _ hLr19 ?_
      refine xj_goto C (tgt := 38) dX9_relax_98 (by decide) ?_
      exact ih _ _ _ hM K
set_option maxRecDepth 100000 in
set_option maxHeartbeats 4000000 in
theorem c_X9_relax {l : Launch} {D : va_G} {k : Nat → ClassId} {ad : Nat → Nat} {S : xS} {res : xS} (hM : m_X9_relax S = some res) : xM l yX9_relax wsX9_relax rmX9_relax D k [.ref (ad 24)] (wY ad k S) none (wY ad k res) := by
  refine xM_of (ret := none) (by decide) rfl (Nat.le_of_ble_eq_true rfl) (fun X C => ?_)
  have C : xC D k (xo X D k none (wY ad k res)) X cX9_relax 5 RX9 wsX9_relax none rmX9_relax := C
  show xJ l D k (xo X D k none (wY ad k res)) X 5 0 [(0, .ref (ad 24))] [] (wY ad k S)
  unfold m_X9_relax at hM
  refine xj_iconst C dX9_relax_0 ?_
  refine xj_istore_n C (L1 := [(1, .int (xi 0)), (0, .ref (ad 24))]) dX9_relax_1 rfl (by decide) rfl ?_
  obtain ⟨r7, hLr7, hM⟩ := xbd hM
  refine xj_loc C [1, 0] (L1 := [(0, .ref (ad 24)), (1, .int (xi 0))]) rfl ?_
  refine j_X9_relax_L2 C _ _ _ _ hLr7 ?_
  refine xj_iconst C dX9_relax_36 ?_
  refine xj_istore_n C (L1 := [(1, .int (xi 1)), (0, .ref (ad 24))]) dX9_relax_37 rfl (by decide) rfl ?_
  obtain ⟨r20, hLr20, hM⟩ := xbd hM
  refine xj_loc C [1, 0] (L1 := [(0, .ref (ad 24)), (1, .int (xi 1))]) rfl ?_
  refine j_X9_relax_L38 C _ _ _ _ hLr20 ?_
  obtain rfl := Option.some.inj hM
  exact xj_vret C rfl dX9_relax_101
def rmX9_follow : Room := { frames := 3, cells := 0, slots := 0, locals := 70 }
theorem hv_X9_follow : yX9_follow.cls = RX9 ∧ yX9_follow.cls ≠ "java/lang/invoke/MethodHandle" ∧ yX9_follow.cls ≠ "java/lang/invoke/VarHandle" ∧ (parseMethodDescriptor yX9_follow.desc).map (fun d => d.parameters.length) = some 1 := by decide +kernel
def m_X9_follow_L25 (p2 : Int) (p3 : Int) (S : xS) : Nat → Int → Int → Int → Option (Int × Int)
  | 0, _, _, _ => none
  | n + 1, v4, v5, v6 => xck (xr v6) (if 5 ≤ v6 then some (v4, v5) else (m_X9_behindChannel p3 v6).bind (fun r7 => (xck (xr r7) (if r7 < 0 then some 0 else ((if 0 ≤ r7 then some r7 else some 0)).bind (fun r11 => xck (0 ≤ r11 ∧ r11 < 148) ((m_X9_price p2 S).bind (fun r14 => xck (0 ≤ p2 ∧ p2 < 148) (xck (xr ((S 18 r11) + r14) ∧ xr (S 18 p2)) (if ((S 18 r11) + r14) = (S 18 p2) then some 1 else some 0))))))).bind (fun r8 => (xck (xr r8) (if r8 = 0 then some (v4, v5) else xck (xr v4) (if v4 < 0 then some (r7, v6) else xck (xr r7) (if v4 ≤ r7 then some (v4, v5) else some (r7, v6))))).bind (fun r18 => m_X9_follow_L25 p2 p3 S n r18.1 r18.2 (v6 + 1)))))
def m_X9_follow_L2 : Nat → Int → xS → Option (xS)
  | 0, _, _ => none
  | n + 1, v2, S => xck (0 ≤ v2 ∧ v2 < 148) (xck (xr (S 17 v2)) (if (S 17 v2) = 0 then (m_X9_channelOf v2).bind (fun r4 => (m_X9_follow_L25 v2 r4 S 2000 (-1) 0 1).bind (fun r25 => xck (0 ≤ r4 ∧ r4 < 128) (xck ((0 ≤ v2 ∧ v2 < 148)) (m_X9_follow_L2 n r25.1 (xup (xup S 20 r4 r25.2) 17 v2 1))))) else some S))
def m_X9_follow (p1 : Int) (S : xS) : Option (xS) := (m_X9_follow_L2 2000 p1 S).bind (fun r28 => some r28)
set_option maxRecDepth 100000 in
set_option maxHeartbeats 4000000 in
theorem j_X9_follow_L25 {l : Launch} {D : va_G} {k : Nat → ClassId} {ad : Nat → Nat} {o : xO} {X : xX} (C : xC D k o X cX9_follow 9 RX9 wsX9_follow none rmX9_follow) (p2 : Int) (p3 : Int) (S : xS) : ∀ (n : Nat) (v4 : Int) (v5 : Int) (v6 : Int) (r : Int × Int), m_X9_follow_L25 p2 p3 S n v4 v5 v6 = some r → (xJ l D k o X 9 113 [(0, .ref (ad 24)), (2, .int (xi p2)), (3, .int (xi p3)), (4, .int (xi r.1)), (5, .int (xi r.2))] [] (wY ad k S)) → xJ l D k o X 9 25 [(0, .ref (ad 24)), (2, .int (xi p2)), (3, .int (xi p3)), (4, .int (xi v4)), (5, .int (xi v5)), (6, .int (xi v6))] [] (wY ad k S) := by
  intro n
  induction n with
  | zero =>
    intro v4 v5 v6 r hM
    cases hM
  | succ n ih =>
    intro v4 v5 v6 r hM K
    unfold m_X9_follow_L25 at hM
    refine xj_iload C 5 dX9_follow_25 rfl ?_
    refine xj_iconst C dX9_follow_27 ?_
    obtain ⟨g5, hM⟩ := xck_some hM
    refine xj_icmp_ge C (tgt := 113) dX9_follow_28 (by decide) ⟨g5, (by decide)⟩ (fun c6 => ?_) (fun c6 => ?_)
    · have hM := xit hM c6
      obtain rfl := Option.some.inj hM
      refine xj_loc C [0, 1, 2, 3, 4] (L1 := [(0, .ref (ad 24)), (2, .int (xi p2)), (3, .int (xi p3)), (4, .int (xi v4)), (5, .int (xi v5))]) rfl ?_
      exact K
    · have hM := xif hM c6
      refine xj_iload_n C 2 dX9_follow_31 rfl rfl ?_
      refine xj_iload C 5 dX9_follow_32 rfl ?_
      obtain ⟨r7, hRr7, hM⟩ := xbd hM
      refine xj_callS C [.int (xi p3), .int (xi v6)] [] 2 (c_X9_behindChannel hRr7) gX9_follow_X9_behindChannel rfl ⟨rfl, rfl⟩ hv_X9_behindChannel ⟨Nat.le_of_ble_eq_true rfl, Nat.le_of_ble_eq_true rfl⟩ rfl (Nat.le_of_ble_eq_true rfl) dX9_follow_34 ?_
      refine xj_istore C (L1 := [(7, .int (xi r7)), (0, .ref (ad 24)), (2, .int (xi p2)), (3, .int (xi p3)), (4, .int (xi v4)), (5, .int (xi v5)), (6, .int (xi v6))]) dX9_follow_37 (by decide) rfl ?_
      refine xj_iload C 0 dX9_follow_39 rfl ?_
      obtain ⟨r8, hRr8, hM⟩ := xbd hM
      have Kr8 : xJ l D k o X 9 80 [(0, .ref (ad 24)), (2, .int (xi p2)), (3, .int (xi p3)), (4, .int (xi v4)), (5, .int (xi v5)), (6, .int (xi v6)), (7, .int (xi r7))] [.int (xi r8)] (wY ad k S) := by
        refine xj_istore C (L1 := [(8, .int (xi r8)), (0, .ref (ad 24)), (2, .int (xi p2)), (3, .int (xi p3)), (4, .int (xi v4)), (5, .int (xi v5)), (6, .int (xi v6)), (7, .int (xi r7))]) dX9_follow_80 (by decide) rfl ?_
        refine xj_iload C 0 dX9_follow_82 rfl ?_
        obtain ⟨r18, hRr18, hM⟩ := xbd hM
        have Kr18 : xJ l D k o X 9 107 [(0, .ref (ad 24)), (2, .int (xi p2)), (3, .int (xi p3)), (4, .int (xi r18.1)), (5, .int (xi r18.2)), (6, .int (xi v6))] [] (wY ad k S) := by
          refine xj_iinc C 5 (L1 := [(6, .int (xi (v6 + 1))), (0, .ref (ad 24)), (2, .int (xi p2)), (3, .int (xi p3)), (4, .int (xi r18.1)), (5, .int (xi r18.2))]) dX9_follow_107 rfl (by decide) rfl ?_
          refine xj_goto C (tgt := 25) dX9_follow_110 (by decide) ?_
          refine xj_loc C [1, 2, 3, 4, 5, 0] (L1 := [(0, .ref (ad 24)), (2, .int (xi p2)), (3, .int (xi p3)), (4, .int (xi r18.1)), (5, .int (xi r18.2)), (6, .int (xi (v6 + 1)))]) rfl ?_
          exact ih _ _ _ _ hM K
        clear hM
        have hM := hRr18
        obtain ⟨g19, hM⟩ := xck_some hM
        refine xj_if_eq C (tgt := 107) dX9_follow_84 (by decide) g19 (fun c20 => ?_) (fun c20 => ?_)
        · have hM := xit hM c20
          obtain rfl := Option.some.inj hM
          refine xj_loc C [1, 2, 3, 4, 5, 6] (L1 := [(0, .ref (ad 24)), (2, .int (xi p2)), (3, .int (xi p3)), (4, .int (xi v4)), (5, .int (xi v5)), (6, .int (xi v6))]) rfl ?_
          exact Kr18
        · have hM := xif hM c20
          refine xj_iload C 4 dX9_follow_87 rfl ?_
          obtain ⟨g21, hM⟩ := xck_some hM
          refine xj_if_lt C (tgt := 99) dX9_follow_89 (by decide) g21 (fun c22 => ?_) (fun c22 => ?_)
          · have hM := xit hM c22
            refine xj_iload C 7 dX9_follow_99 rfl ?_
            refine xj_istore C (L1 := [(4, .int (xi r7)), (8, .int (xi r8)), (0, .ref (ad 24)), (2, .int (xi p2)), (3, .int (xi p3)), (5, .int (xi v5)), (6, .int (xi v6)), (7, .int (xi r7))]) dX9_follow_101 (by decide) rfl ?_
            refine xj_iload C 6 dX9_follow_103 rfl ?_
            refine xj_istore C (L1 := [(5, .int (xi v6)), (4, .int (xi r7)), (8, .int (xi r8)), (0, .ref (ad 24)), (2, .int (xi p2)), (3, .int (xi p3)), (6, .int (xi v6)), (7, .int (xi r7))]) dX9_follow_105 (by decide) rfl ?_
            obtain rfl := Option.some.inj hM
            refine xj_loc C [3, 4, 5, 1, 0, 6] (L1 := [(0, .ref (ad 24)), (2, .int (xi p2)), (3, .int (xi p3)), (4, .int (xi r7)), (5, .int (xi v6)), (6, .int (xi v6))]) rfl ?_
            exact Kr18
          · have hM := xif hM c22
            refine xj_iload C 7 dX9_follow_92 rfl ?_
            refine xj_iload C 4 dX9_follow_94 rfl ?_
            obtain ⟨g23, hM⟩ := xck_some hM
            refine xj_icmp_ge C (tgt := 107) dX9_follow_96 (by decide) ⟨g23, g21⟩ (fun c24 => ?_) (fun c24 => ?_)
            · have hM := xit hM c24
              obtain rfl := Option.some.inj hM
              refine xj_loc C [1, 2, 3, 4, 5, 6] (L1 := [(0, .ref (ad 24)), (2, .int (xi p2)), (3, .int (xi p3)), (4, .int (xi v4)), (5, .int (xi v5)), (6, .int (xi v6))]) rfl ?_
              exact Kr18
            · have hM := xif hM c24
              refine xj_iload C 7 dX9_follow_99 rfl ?_
              refine xj_istore C (L1 := [(4, .int (xi r7)), (8, .int (xi r8)), (0, .ref (ad 24)), (2, .int (xi p2)), (3, .int (xi p3)), (5, .int (xi v5)), (6, .int (xi v6)), (7, .int (xi r7))]) dX9_follow_101 (by decide) rfl ?_
              refine xj_iload C 6 dX9_follow_103 rfl ?_
              refine xj_istore C (L1 := [(5, .int (xi v6)), (4, .int (xi r7)), (8, .int (xi r8)), (0, .ref (ad 24)), (2, .int (xi p2)), (3, .int (xi p3)), (6, .int (xi v6)), (7, .int (xi r7))]) dX9_follow_105 (by decide) rfl ?_
              obtain rfl := Option.some.inj hM
              refine xj_loc C [3, 4, 5, 1, 0, 6] (L1 := [(0, .ref (ad 24)), (2, .int (xi p2)), (3, .int (xi p3)), (4, .int (xi r7)), (5, .int (xi v6)), (6, .int (xi v6))]) rfl ?_
              exact Kr18
      clear hM
      have hM := hRr8
      obtain ⟨g9, hM⟩ := xck_some hM
      refine xj_if_lt C (tgt := 79) dX9_follow_41 (by decide) g9 (fun c10 => ?_) (fun c10 => ?_)
      · have hM := xit hM c10
        refine xj_iconst C dX9_follow_79 ?_
        obtain rfl := Option.some.inj hM
        refine xj_loc C [1, 2, 3, 4, 5, 6, 0] (L1 := [(0, .ref (ad 24)), (2, .int (xi p2)), (3, .int (xi p3)), (4, .int (xi v4)), (5, .int (xi v5)), (6, .int (xi v6)), (7, .int (xi r7))]) rfl ?_
        exact Kr8
      · have hM := xif hM c10
        refine xj_aload_n C 1 dX9_follow_44 rfl rfl ?_
        refine xj_get C (fun _ h => List.mem_cons_of_mem _ (List.mem_append_right _ h)) 24 (eY_24 ad k S) rfl 21 (by decide) (List.mem_of_getElem? (i := 2) rfl) (fun _ _ h => h) rfl dX9_follow_45 ?_
        refine xj_iload C 0 dX9_follow_48 rfl ?_
        obtain ⟨r11, hRr11, hM⟩ := xbd hM
        have Kr11 : xJ l D k o X 9 59 [(0, .ref (ad 24)), (2, .int (xi p2)), (3, .int (xi p3)), (4, .int (xi v4)), (5, .int (xi v5)), (6, .int (xi v6)), (7, .int (xi r7))] [.int (xi r11), .ref (ad 18)] (wY ad k S) := by
          obtain ⟨g13, hM⟩ := xck_some hM
          refine xj_iald C 18 S 18 (eY_18 ad k S) (Nat.le_of_ble_eq_true rfl) g13 dX9_follow_59 ?_
          refine xj_aload_n C 0 dX9_follow_60 rfl rfl ?_
          refine xj_iload_n C 1 dX9_follow_61 rfl rfl ?_
          obtain ⟨r14, hRr14, hM⟩ := xbd hM
          refine xj_callV C [.int (xi p2)] [.int (xi (S 18 r11))] 1 (c_X9_price hRr14) gX9_follow_X9_price rfl ⟨rfl, rfl⟩ hv_X9_price ⟨Nat.le_of_ble_eq_true rfl, Nat.le_of_ble_eq_true rfl⟩ 24 (eY_24 ad k _) rfl rfl (Nat.le_of_ble_eq_true rfl) dX9_follow_62 ?_
          refine xj_iadd C dX9_follow_65 ?_
          refine xj_aload_n C 0 dX9_follow_66 rfl rfl ?_
          refine xj_get C (fun _ h => List.mem_cons_of_mem _ (List.mem_append_right _ h)) 24 (eY_24 ad k S) rfl 21 (by decide) (List.mem_of_getElem? (i := 2) rfl) (fun _ _ h => h) rfl dX9_follow_67 ?_
          refine xj_iload_n C 1 dX9_follow_70 rfl rfl ?_
          obtain ⟨g15, hM⟩ := xck_some hM
          refine xj_iald C 18 S 18 (eY_18 ad k S) (Nat.le_of_ble_eq_true rfl) g15 dX9_follow_71 ?_
          obtain ⟨g16, hM⟩ := xck_some hM
          refine xj_icmp_ne C (tgt := 79) dX9_follow_72 (by decide) ⟨g16.1, g16.2⟩ (fun c17 => ?_) (fun c17 => ?_)
          · have hM := xif hM c17
            refine xj_iconst C dX9_follow_79 ?_
            obtain rfl := Option.some.inj hM
            exact Kr8
          · have hM := xit hM c17
            refine xj_iconst C dX9_follow_75 ?_
            refine xj_goto C (tgt := 80) dX9_follow_76 (by decide) ?_
            obtain rfl := Option.some.inj hM
            exact Kr8
        clear hM
        have hM := hRr11
        refine xj_if_ge C (tgt := 57) dX9_follow_50 (by decide) g9 (fun c12 => ?_) (fun c12 => ?_)
        · have hM := xit hM c12
          refine xj_iload C 0 dX9_follow_57 rfl ?_
          obtain rfl := Option.some.inj hM
          refine xj_loc C [1, 2, 3, 4, 5, 6, 0] (L1 := [(0, .ref (ad 24)), (2, .int (xi p2)), (3, .int (xi p3)), (4, .int (xi v4)), (5, .int (xi v5)), (6, .int (xi v6)), (7, .int (xi r7))]) rfl ?_
          exact Kr11
        · have hM := xif hM c12
          refine xj_iconst C dX9_follow_53 ?_
          refine xj_goto C (tgt := 59) dX9_follow_54 (by decide) ?_
          obtain rfl := Option.some.inj hM
          refine xj_loc C [1, 2, 3, 4, 5, 6, 0] (L1 := [(0, .ref (ad 24)), (2, .int (xi p2)), (3, .int (xi p3)), (4, .int (xi v4)), (5, .int (xi v5)), (6, .int (xi v6)), (7, .int (xi r7))]) rfl ?_
          exact Kr11
set_option maxRecDepth 100000 in
set_option maxHeartbeats 4000000 in
theorem j_X9_follow_L2 {l : Launch} {D : va_G} {k : Nat → ClassId} {ad : Nat → Nat} {o : xO} {X : xX} (C : xC D k o X cX9_follow 9 RX9 wsX9_follow none rmX9_follow) : ∀ (n : Nat) (v2 : Int) (S : xS) (r : xS), m_X9_follow_L2 n v2 S = some r → (xJ l D k o X 9 134 [] [] (wY ad k r)) → xJ l D k o X 9 2 [(0, .ref (ad 24)), (2, .int (xi v2))] [] (wY ad k S) := by
  intro n
  induction n with
  | zero =>
    intro v2 S r hM
    cases hM
  | succ n ih =>
    intro v2 S r hM K
    unfold m_X9_follow_L2 at hM
    refine xj_aload_n C 0 dX9_follow_2 rfl rfl ?_
    refine xj_get C (fun _ h => List.mem_cons_of_mem _ (List.mem_append_right _ h)) 24 (eY_24 ad k S) rfl 20 (by decide) (List.mem_of_getElem? (i := 1) rfl) (fun _ _ h => h) rfl dX9_follow_3 ?_
    refine xj_iload_n C 1 dX9_follow_6 rfl rfl ?_
    obtain ⟨g1, hM⟩ := xck_some hM
    refine xj_zald C 17 S 17 (eY_17 ad k S) (Nat.le_of_ble_eq_true rfl) g1 dX9_follow_7 ?_
    obtain ⟨g2, hM⟩ := xck_some hM
    refine xj_if_ne C (tgt := 134) dX9_follow_8 (by decide) g2 (fun c3 => ?_) (fun c3 => ?_)
    · have hM := xif hM c3
      obtain rfl := Option.some.inj hM
      refine xj_loc C [] (L1 := []) rfl ?_
      exact K
    · have hM := xit hM c3
      refine xj_iload_n C 1 dX9_follow_11 rfl rfl ?_
      obtain ⟨r4, hRr4, hM⟩ := xbd hM
      refine xj_callS C [.int (xi v2)] [] 1 (c_X9_channelOf hRr4) gX9_follow_X9_channelOf rfl ⟨rfl, rfl⟩ hv_X9_channelOf ⟨Nat.le_of_ble_eq_true rfl, Nat.le_of_ble_eq_true rfl⟩ rfl (Nat.le_of_ble_eq_true rfl) dX9_follow_12 ?_
      refine xj_istore_n C (L1 := [(3, .int (xi r4)), (0, .ref (ad 24)), (2, .int (xi v2))]) dX9_follow_15 rfl (by decide) rfl ?_
      refine xj_iconst C dX9_follow_16 ?_
      refine xj_istore C (L1 := [(4, .int (xi (-1))), (3, .int (xi r4)), (0, .ref (ad 24)), (2, .int (xi v2))]) dX9_follow_17 (by decide) rfl ?_
      refine xj_iconst C dX9_follow_19 ?_
      refine xj_istore C (L1 := [(5, .int (xi 0)), (4, .int (xi (-1))), (3, .int (xi r4)), (0, .ref (ad 24)), (2, .int (xi v2))]) dX9_follow_20 (by decide) rfl ?_
      refine xj_iconst C dX9_follow_22 ?_
      refine xj_istore C (L1 := [(6, .int (xi 1)), (5, .int (xi 0)), (4, .int (xi (-1))), (3, .int (xi r4)), (0, .ref (ad 24)), (2, .int (xi v2))]) dX9_follow_23 (by decide) rfl ?_
      obtain ⟨r25, hLr25, hM⟩ := xbd hM
      refine xj_loc C [4, 5, 3, 2, 1, 0] (L1 := [(0, .ref (ad 24)), (2, .int (xi v2)), (3, .int (xi r4)), (4, .int (xi (-1))), (5, .int (xi 0)), (6, .int (xi 1))]) rfl ?_
      refine j_X9_follow_L25 C v2 r4 S _ _ _ _ _ hLr25 ?_
      refine xj_aload_n C 0 dX9_follow_113 rfl rfl ?_
      refine xj_get C (fun _ h => List.mem_cons_of_mem _ (List.mem_append_right _ h)) 24 (eY_24 ad k S) rfl 23 (by decide) (List.mem_of_getElem? (i := 3) rfl) (fun _ _ h => h) rfl dX9_follow_114 ?_
      refine xj_iload_n C 2 dX9_follow_117 rfl rfl ?_
      refine xj_iload C 4 dX9_follow_118 rfl ?_
      obtain ⟨g26, hM⟩ := xck_some hM
      refine xj_iast C 20 S 20 (eY_20 ad k S) (Nat.le_of_ble_eq_true rfl) g26 (sY_20 ad k S r4 r25.2) dX9_follow_120 ?_
      refine xj_aload_n C 0 dX9_follow_121 rfl rfl ?_
      refine xj_get C (fun _ h => List.mem_cons_of_mem _ (List.mem_append_right _ h)) 24 (eY_24 ad k (xup S 20 r4 r25.2)) rfl 20 (by decide) (List.mem_of_getElem? (i := 1) rfl) (fun _ _ h => h) rfl dX9_follow_122 ?_
      refine xj_iload_n C 1 dX9_follow_125 rfl rfl ?_
      refine xj_iconst C dX9_follow_126 ?_
      obtain ⟨g27, hM⟩ := xck_some hM
      refine xj_zast C 17 (xup S 20 r4 r25.2) 17 (eY_17 ad k (xup S 20 r4 r25.2)) (Nat.le_of_ble_eq_true rfl) (Or.inr rfl) g27 (sY_17 ad k (xup S 20 r4 r25.2) v2 1) dX9_follow_127 ?_
      refine xj_iload C 3 dX9_follow_128 rfl ?_
      refine xj_istore_n C (L1 := [(2, .int (xi r25.1)), (0, .ref (ad 24)), (3, .int (xi r4)), (4, .int (xi r25.1)), (5, .int (xi r25.2))]) dX9_follow_130 rfl (by decide) rfl ?_
      refine xj_goto C (tgt := 2) dX9_follow_131 (by decide) ?_
      refine xj_loc C [1, 0] (L1 := [(0, .ref (ad 24)), (2, .int (xi r25.1))]) rfl ?_
      exact ih _ _ _ hM K
set_option maxRecDepth 100000 in
set_option maxHeartbeats 4000000 in
theorem c_X9_follow {l : Launch} {D : va_G} {k : Nat → ClassId} {ad : Nat → Nat} {S : xS} {p1 : Int} {res : xS} (hM : m_X9_follow p1 S = some res) : xM l yX9_follow wsX9_follow rmX9_follow D k [.ref (ad 24), .int (xi p1)] (wY ad k S) none (wY ad k res) := by
  refine xM_of (ret := none) (by decide) rfl (Nat.le_of_ble_eq_true rfl) (fun X C => ?_)
  have C : xC D k (xo X D k none (wY ad k res)) X cX9_follow 9 RX9 wsX9_follow none rmX9_follow := C
  show xJ l D k (xo X D k none (wY ad k res)) X 9 0 [(0, .ref (ad 24)), (1, .int (xi p1))] [] (wY ad k S)
  unfold m_X9_follow at hM
  refine xj_iload_n C 1 dX9_follow_0 rfl rfl ?_
  refine xj_istore_n C (L1 := [(2, .int (xi p1)), (0, .ref (ad 24)), (1, .int (xi p1))]) dX9_follow_1 rfl (by decide) rfl ?_
  obtain ⟨r28, hLr28, hM⟩ := xbd hM
  refine xj_loc C [1, 0] (L1 := [(0, .ref (ad 24)), (2, .int (xi p1))]) rfl ?_
  refine j_X9_follow_L2 C _ _ _ _ hLr28 ?_
  obtain rfl := Option.some.inj hM
  exact xj_vret C rfl dX9_follow_134
def rmX9_reach : Room := { frames := 5, cells := 0, slots := 0, locals := 118 }
theorem hv_X9_reach : yX9_reach.cls = RX9 ∧ yX9_reach.cls ≠ "java/lang/invoke/MethodHandle" ∧ yX9_reach.cls ≠ "java/lang/invoke/VarHandle" ∧ (parseMethodDescriptor yX9_reach.desc).map (fun d => d.parameters.length) = some 1 := by decide +kernel
def m_X9_reach_L61 (p2 : Int) (S : xS) : Nat → Int → Int → Int → Option (Int × Int)
  | 0, _, _, _ => none
  | n + 1, v3, v4, v5 => xck (xr v5) (if 10 ≤ v5 then some (v3, v4) else (m_X9_behindPin p2 v5).bind (fun r8 => (xck (xr r8) (if 0 ≤ r8 then xck (0 ≤ r8 ∧ r8 < 148) (some (S 18 r8)) else some 1000000)).bind (fun r9 => (xck (xr v3) (if 0 ≤ v3 then xck (0 ≤ v3 ∧ v3 < 148) (some (S 18 v3)) else some 1000000)).bind (fun r13 => (xck (xr r9 ∧ xr r13) (if r9 < r13 then some (r8, v5) else (if r9 = r13 then (if 1000000 ≤ r9 then some (v3, v4) else xck (xr r8 ∧ xr v3) (if v3 ≤ r8 then some (v3, v4) else some (r8, v5))) else some (v3, v4)))).bind (fun r17 => m_X9_reach_L61 p2 S n r17.1 r17.2 (v5 + 1))))))
def m_X9_reach (p1 : Int) (S : xS) : Option (Int × xS) := (m_X9_relax S).bind (fun r1 => xck (xr p1) (if p1 < 30 then xck (0 ≤ p1 ∧ p1 ≤ 2147483647) (xck (0 ≤ (p1 / 3) ∧ (p1 / 3) < 10) ((m_X9_reach_L61 ((3 * (r1 13 (p1 / 3))) + (p1 % 3)) r1 2000 (-1) 0 1).bind (fun r24 => xck (xr r24.1) (if 0 ≤ r24.1 then xck (0 ≤ ((3 * (r1 13 (p1 / 3))) + (p1 % 3)) ∧ ((3 * (r1 13 (p1 / 3))) + (p1 % 3)) < 48) ((m_X9_follow r24.1 (xup r1 19 ((3 * (r1 13 (p1 / 3))) + (p1 % 3)) r24.2)).bind (fun r28 => some (1, r28))) else some (0, r1))))) else (m_X9_outputWire (p1 - 30)).bind (fun r29 => xck (0 ≤ r29 ∧ r29 < 148) (xck (xr (r1 18 r29)) (if (r1 18 r29) < 1000000 then (m_X9_follow r29 r1).bind (fun r33 => some (1, r33)) else some (0, r1))))))
set_option maxRecDepth 100000 in
set_option maxHeartbeats 4000000 in
theorem j_X9_reach_L61 {l : Launch} {D : va_G} {k : Nat → ClassId} {ad : Nat → Nat} {o : xO} {X : xX} (C : xC D k o X cX9_reach 9 RX9 wsX9_reach (some .boolean) rmX9_reach) (p2 : Int) (S : xS) : ∀ (n : Nat) (v3 : Int) (v4 : Int) (v5 : Int) (r : Int × Int), m_X9_reach_L61 p2 S n v3 v4 v5 = some r → (xJ l D k o X 9 152 [(0, .ref (ad 24)), (2, .int (xi p2)), (3, .int (xi r.1)), (4, .int (xi r.2))] [] (wY ad k S)) → xJ l D k o X 9 61 [(0, .ref (ad 24)), (2, .int (xi p2)), (3, .int (xi v3)), (4, .int (xi v4)), (5, .int (xi v5))] [] (wY ad k S) := by
  intro n
  induction n with
  | zero =>
    intro v3 v4 v5 r hM
    cases hM
  | succ n ih =>
    intro v3 v4 v5 r hM K
    unfold m_X9_reach_L61 at hM
    refine xj_iload C 4 dX9_reach_61 rfl ?_
    refine xj_bipush C (n := 10) (by decide) dX9_reach_63 ?_
    obtain ⟨g6, hM⟩ := xck_some hM
    refine xj_icmp_ge C (tgt := 152) dX9_reach_65 (by decide) ⟨g6, (by decide)⟩ (fun c7 => ?_) (fun c7 => ?_)
    · have hM := xit hM c7
      obtain rfl := Option.some.inj hM
      refine xj_loc C [0, 1, 2, 3] (L1 := [(0, .ref (ad 24)), (2, .int (xi p2)), (3, .int (xi v3)), (4, .int (xi v4))]) rfl ?_
      exact K
    · have hM := xif hM c7
      refine xj_iload_n C 1 dX9_reach_68 rfl rfl ?_
      refine xj_iload C 4 dX9_reach_69 rfl ?_
      obtain ⟨r8, hRr8, hM⟩ := xbd hM
      refine xj_callS C [.int (xi p2), .int (xi v5)] [] 2 (c_X9_behindPin hRr8) gX9_reach_X9_behindPin rfl ⟨rfl, rfl⟩ hv_X9_behindPin ⟨Nat.le_of_ble_eq_true rfl, Nat.le_of_ble_eq_true rfl⟩ rfl (Nat.le_of_ble_eq_true rfl) dX9_reach_71 ?_
      refine xj_istore C (L1 := [(6, .int (xi r8)), (0, .ref (ad 24)), (2, .int (xi p2)), (3, .int (xi v3)), (4, .int (xi v4)), (5, .int (xi v5))]) dX9_reach_74 (by decide) rfl ?_
      refine xj_iload C 0 dX9_reach_76 rfl ?_
      obtain ⟨r9, hRr9, hM⟩ := xbd hM
      have Kr9 : xJ l D k o X 9 93 [(0, .ref (ad 24)), (2, .int (xi p2)), (3, .int (xi v3)), (4, .int (xi v4)), (5, .int (xi v5)), (6, .int (xi r8))] [.int (xi r9)] (wY ad k S) := by
        refine xj_istore C (L1 := [(7, .int (xi r9)), (0, .ref (ad 24)), (2, .int (xi p2)), (3, .int (xi v3)), (4, .int (xi v4)), (5, .int (xi v5)), (6, .int (xi r8))]) dX9_reach_93 (by decide) rfl ?_
        refine xj_iload_n C 3 dX9_reach_95 rfl rfl ?_
        obtain ⟨r13, hRr13, hM⟩ := xbd hM
        have Kr13 : xJ l D k o X 9 110 [(0, .ref (ad 24)), (2, .int (xi p2)), (3, .int (xi v3)), (4, .int (xi v4)), (5, .int (xi v5)), (6, .int (xi r8)), (7, .int (xi r9))] [.int (xi r13)] (wY ad k S) := by
          refine xj_istore C (L1 := [(8, .int (xi r13)), (0, .ref (ad 24)), (2, .int (xi p2)), (3, .int (xi v3)), (4, .int (xi v4)), (5, .int (xi v5)), (6, .int (xi r8)), (7, .int (xi r9))]) dX9_reach_110 (by decide) rfl ?_
          refine xj_iload C 7 dX9_reach_112 rfl ?_
          refine xj_iload C 0 dX9_reach_114 rfl ?_
          obtain ⟨r17, hRr17, hM⟩ := xbd hM
          have Kr17 : xJ l D k o X 9 146 [(0, .ref (ad 24)), (2, .int (xi p2)), (3, .int (xi r17.1)), (4, .int (xi r17.2)), (5, .int (xi v5))] [] (wY ad k S) := by
            refine xj_iinc C 4 (L1 := [(5, .int (xi (v5 + 1))), (0, .ref (ad 24)), (2, .int (xi p2)), (3, .int (xi r17.1)), (4, .int (xi r17.2))]) dX9_reach_146 rfl (by decide) rfl ?_
            refine xj_goto C (tgt := 61) dX9_reach_149 (by decide) ?_
            refine xj_loc C [1, 2, 3, 4, 0] (L1 := [(0, .ref (ad 24)), (2, .int (xi p2)), (3, .int (xi r17.1)), (4, .int (xi r17.2)), (5, .int (xi (v5 + 1)))]) rfl ?_
            exact ih _ _ _ _ hM K
          clear hM
          have hM := hRr17
          obtain ⟨g18, hM⟩ := xck_some hM
          refine xj_icmp_lt C (tgt := 139) dX9_reach_116 (by decide) ⟨g18.1, g18.2⟩ (fun c19 => ?_) (fun c19 => ?_)
          · have hM := xit hM c19
            refine xj_iload C 6 dX9_reach_139 rfl ?_
            refine xj_istore_n C (L1 := [(3, .int (xi r8)), (8, .int (xi r13)), (0, .ref (ad 24)), (2, .int (xi p2)), (4, .int (xi v4)), (5, .int (xi v5)), (6, .int (xi r8)), (7, .int (xi r9))]) dX9_reach_141 rfl (by decide) rfl ?_
            refine xj_iload C 5 dX9_reach_142 rfl ?_
            refine xj_istore C (L1 := [(4, .int (xi v5)), (3, .int (xi r8)), (8, .int (xi r13)), (0, .ref (ad 24)), (2, .int (xi p2)), (5, .int (xi v5)), (6, .int (xi r8)), (7, .int (xi r9))]) dX9_reach_144 (by decide) rfl ?_
            obtain rfl := Option.some.inj hM
            refine xj_loc C [3, 4, 1, 0, 5] (L1 := [(0, .ref (ad 24)), (2, .int (xi p2)), (3, .int (xi r8)), (4, .int (xi v5)), (5, .int (xi v5))]) rfl ?_
            exact Kr17
          · have hM := xif hM c19
            refine xj_iload C 7 dX9_reach_119 rfl ?_
            refine xj_iload C 0 dX9_reach_121 rfl ?_
            refine xj_icmp_ne C (tgt := 146) dX9_reach_123 (by decide) ⟨g18.1, g18.2⟩ (fun c20 => ?_) (fun c20 => ?_)
            · have hM := xif hM c20
              obtain rfl := Option.some.inj hM
              refine xj_loc C [1, 2, 3, 4, 5] (L1 := [(0, .ref (ad 24)), (2, .int (xi p2)), (3, .int (xi v3)), (4, .int (xi v4)), (5, .int (xi v5))]) rfl ?_
              exact Kr17
            · have hM := xit hM c20
              refine xj_iload C 7 dX9_reach_126 rfl ?_
              refine xj_ldc C (n := 1000000) (List.mem_of_getElem? (i := 2) rfl) (by decide) dX9_reach_128 ?_
              refine xj_icmp_ge C (tgt := 146) dX9_reach_130 (by decide) ⟨g18.1, (by decide)⟩ (fun c21 => ?_) (fun c21 => ?_)
              · have hM := xit hM c21
                obtain rfl := Option.some.inj hM
                refine xj_loc C [1, 2, 3, 4, 5] (L1 := [(0, .ref (ad 24)), (2, .int (xi p2)), (3, .int (xi v3)), (4, .int (xi v4)), (5, .int (xi v5))]) rfl ?_
                exact Kr17
              · have hM := xif hM c21
                refine xj_iload C 6 dX9_reach_133 rfl ?_
                refine xj_iload_n C 3 dX9_reach_135 rfl rfl ?_
                obtain ⟨g22, hM⟩ := xck_some hM
                refine xj_icmp_ge C (tgt := 146) dX9_reach_136 (by decide) ⟨g22.1, g22.2⟩ (fun c23 => ?_) (fun c23 => ?_)
                · have hM := xit hM c23
                  obtain rfl := Option.some.inj hM
                  refine xj_loc C [1, 2, 3, 4, 5] (L1 := [(0, .ref (ad 24)), (2, .int (xi p2)), (3, .int (xi v3)), (4, .int (xi v4)), (5, .int (xi v5))]) rfl ?_
                  exact Kr17
                · have hM := xif hM c23
                  refine xj_iload C 6 dX9_reach_139 rfl ?_
                  refine xj_istore_n C (L1 := [(3, .int (xi r8)), (8, .int (xi r13)), (0, .ref (ad 24)), (2, .int (xi p2)), (4, .int (xi v4)), (5, .int (xi v5)), (6, .int (xi r8)), (7, .int (xi r9))]) dX9_reach_141 rfl (by decide) rfl ?_
                  refine xj_iload C 5 dX9_reach_142 rfl ?_
                  refine xj_istore C (L1 := [(4, .int (xi v5)), (3, .int (xi r8)), (8, .int (xi r13)), (0, .ref (ad 24)), (2, .int (xi p2)), (5, .int (xi v5)), (6, .int (xi r8)), (7, .int (xi r9))]) dX9_reach_144 (by decide) rfl ?_
                  obtain rfl := Option.some.inj hM
                  refine xj_loc C [3, 4, 1, 0, 5] (L1 := [(0, .ref (ad 24)), (2, .int (xi p2)), (3, .int (xi r8)), (4, .int (xi v5)), (5, .int (xi v5))]) rfl ?_
                  exact Kr17
        clear hM
        have hM := hRr13
        obtain ⟨g14, hM⟩ := xck_some hM
        refine xj_if_ge C (tgt := 104) dX9_reach_96 (by decide) g14 (fun c15 => ?_) (fun c15 => ?_)
        · have hM := xit hM c15
          refine xj_aload_n C 1 dX9_reach_104 rfl rfl ?_
          refine xj_get C (fun _ h => List.mem_cons_of_mem _ (List.mem_append_right _ h)) 24 (eY_24 ad k S) rfl 21 (by decide) (List.mem_of_getElem? (i := 1) rfl) (fun _ _ h => h) rfl dX9_reach_105 ?_
          refine xj_iload_n C 3 dX9_reach_108 rfl rfl ?_
          obtain ⟨g16, hM⟩ := xck_some hM
          refine xj_iald C 18 S 18 (eY_18 ad k S) (Nat.le_of_ble_eq_true rfl) g16 dX9_reach_109 ?_
          obtain rfl := Option.some.inj hM
          refine xj_loc C [1, 2, 3, 4, 5, 6, 0] (L1 := [(0, .ref (ad 24)), (2, .int (xi p2)), (3, .int (xi v3)), (4, .int (xi v4)), (5, .int (xi v5)), (6, .int (xi r8)), (7, .int (xi r9))]) rfl ?_
          exact Kr13
        · have hM := xif hM c15
          refine xj_ldc C (n := 1000000) (List.mem_of_getElem? (i := 2) rfl) (by decide) dX9_reach_99 ?_
          refine xj_goto C (tgt := 110) dX9_reach_101 (by decide) ?_
          obtain rfl := Option.some.inj hM
          refine xj_loc C [1, 2, 3, 4, 5, 6, 0] (L1 := [(0, .ref (ad 24)), (2, .int (xi p2)), (3, .int (xi v3)), (4, .int (xi v4)), (5, .int (xi v5)), (6, .int (xi r8)), (7, .int (xi r9))]) rfl ?_
          exact Kr13
      clear hM
      have hM := hRr9
      obtain ⟨g10, hM⟩ := xck_some hM
      refine xj_if_ge C (tgt := 86) dX9_reach_78 (by decide) g10 (fun c11 => ?_) (fun c11 => ?_)
      · have hM := xit hM c11
        refine xj_aload_n C 1 dX9_reach_86 rfl rfl ?_
        refine xj_get C (fun _ h => List.mem_cons_of_mem _ (List.mem_append_right _ h)) 24 (eY_24 ad k S) rfl 21 (by decide) (List.mem_of_getElem? (i := 1) rfl) (fun _ _ h => h) rfl dX9_reach_87 ?_
        refine xj_iload C 0 dX9_reach_90 rfl ?_
        obtain ⟨g12, hM⟩ := xck_some hM
        refine xj_iald C 18 S 18 (eY_18 ad k S) (Nat.le_of_ble_eq_true rfl) g12 dX9_reach_92 ?_
        obtain rfl := Option.some.inj hM
        refine xj_loc C [1, 2, 3, 4, 5, 0] (L1 := [(0, .ref (ad 24)), (2, .int (xi p2)), (3, .int (xi v3)), (4, .int (xi v4)), (5, .int (xi v5)), (6, .int (xi r8))]) rfl ?_
        exact Kr9
      · have hM := xif hM c11
        refine xj_ldc C (n := 1000000) (List.mem_of_getElem? (i := 2) rfl) (by decide) dX9_reach_81 ?_
        refine xj_goto C (tgt := 93) dX9_reach_83 (by decide) ?_
        obtain rfl := Option.some.inj hM
        refine xj_loc C [1, 2, 3, 4, 5, 0] (L1 := [(0, .ref (ad 24)), (2, .int (xi p2)), (3, .int (xi v3)), (4, .int (xi v4)), (5, .int (xi v5)), (6, .int (xi r8))]) rfl ?_
        exact Kr9
set_option maxRecDepth 100000 in
set_option maxHeartbeats 4000000 in
theorem c_X9_reach {l : Launch} {D : va_G} {k : Nat → ClassId} {ad : Nat → Nat} {S : xS} {p1 : Int} {res : Int × xS} (hM : m_X9_reach p1 S = some res) : xM l yX9_reach wsX9_reach rmX9_reach D k [.ref (ad 24), .int (xi p1)] (wY ad k S) (some (.int (xi res.1))) (wY ad k res.2) := by
  refine xM_of (ret := (some .boolean)) (by decide) rfl (Nat.le_of_ble_eq_true rfl) (fun X C => ?_)
  have C : xC D k (xo X D k (some (.int (xi res.1))) (wY ad k res.2)) X cX9_reach 9 RX9 wsX9_reach (some .boolean) rmX9_reach := C
  show xJ l D k (xo X D k (some (.int (xi res.1))) (wY ad k res.2)) X 9 0 [(0, .ref (ad 24)), (1, .int (xi p1))] [] (wY ad k S)
  unfold m_X9_reach at hM
  refine xj_aload_n C 0 dX9_reach_0 rfl rfl ?_
  obtain ⟨r1, hRr1, hM⟩ := xbd hM
  refine xj_callV C [] [] 0 (c_X9_relax hRr1) gX9_reach_X9_relax rfl ⟨rfl, rfl⟩ hv_X9_relax ⟨Nat.le_of_ble_eq_true rfl, Nat.le_of_ble_eq_true rfl⟩ 24 (eY_24 ad k _) rfl rfl (Nat.le_of_ble_eq_true rfl) dX9_reach_1 ?_
  refine xj_iload_n C 1 dX9_reach_4 rfl rfl ?_
  refine xj_bipush C (n := 30) (by decide) dX9_reach_5 ?_
  obtain ⟨g2, hM⟩ := xck_some hM
  refine xj_icmp_lt C (tgt := 38) dX9_reach_7 (by decide) ⟨g2, (by decide)⟩ (fun c3 => ?_) (fun c3 => ?_)
  · have hM := xit hM c3
    refine xj_iconst C dX9_reach_38 ?_
    refine xj_aload_n C 0 dX9_reach_39 rfl rfl ?_
    refine xj_get C (fun _ h => List.mem_cons_of_mem _ (List.mem_append_right _ h)) 24 (eY_24 ad k r1) rfl 16 (by decide) (List.mem_of_getElem? (i := 3) rfl) (fun _ _ h => h) rfl dX9_reach_40 ?_
    refine xj_iload_n C 1 dX9_reach_43 rfl rfl ?_
    refine xj_iconst C dX9_reach_44 ?_
    obtain ⟨g4, hM⟩ := xck_some hM
    refine xj_idiv C ⟨g4.1, g4.2, by decide, by decide⟩ dX9_reach_45 ?_
    obtain ⟨g5, hM⟩ := xck_some hM
    refine xj_iald C 13 r1 13 (eY_13 ad k r1) (Nat.le_of_ble_eq_true rfl) g5 dX9_reach_46 ?_
    refine xj_imul C dX9_reach_47 ?_
    refine xj_iload_n C 1 dX9_reach_48 rfl rfl ?_
    refine xj_iconst C dX9_reach_49 ?_
    refine xj_irem C ⟨g4.1, g4.2, by decide, by decide⟩ dX9_reach_50 ?_
    refine xj_iadd C dX9_reach_51 ?_
    refine xj_istore_n C (L1 := [(2, .int (xi ((3 * (r1 13 (p1 / 3))) + (p1 % 3)))), (0, .ref (ad 24)), (1, .int (xi p1))]) dX9_reach_52 rfl (by decide) rfl ?_
    refine xj_iconst C dX9_reach_53 ?_
    refine xj_istore_n C (L1 := [(3, .int (xi (-1))), (2, .int (xi ((3 * (r1 13 (p1 / 3))) + (p1 % 3)))), (0, .ref (ad 24)), (1, .int (xi p1))]) dX9_reach_54 rfl (by decide) rfl ?_
    refine xj_iconst C dX9_reach_55 ?_
    refine xj_istore C (L1 := [(4, .int (xi 0)), (3, .int (xi (-1))), (2, .int (xi ((3 * (r1 13 (p1 / 3))) + (p1 % 3)))), (0, .ref (ad 24)), (1, .int (xi p1))]) dX9_reach_56 (by decide) rfl ?_
    refine xj_iconst C dX9_reach_58 ?_
    refine xj_istore C (L1 := [(5, .int (xi 1)), (4, .int (xi 0)), (3, .int (xi (-1))), (2, .int (xi ((3 * (r1 13 (p1 / 3))) + (p1 % 3)))), (0, .ref (ad 24)), (1, .int (xi p1))]) dX9_reach_59 (by decide) rfl ?_
    obtain ⟨r24, hLr24, hM⟩ := xbd hM
    refine xj_loc C [4, 3, 2, 1, 0] (L1 := [(0, .ref (ad 24)), (2, .int (xi ((3 * (r1 13 (p1 / 3))) + (p1 % 3)))), (3, .int (xi (-1))), (4, .int (xi 0)), (5, .int (xi 1))]) rfl ?_
    refine j_X9_reach_L61 C ((3 * (r1 13 (p1 / 3))) + (p1 % 3)) r1 _ _ _ _ _ hLr24 ?_
    refine xj_iload_n C 2 dX9_reach_152 rfl rfl ?_
    obtain ⟨g25, hM⟩ := xck_some hM
    refine xj_if_ge C (tgt := 158) dX9_reach_153 (by decide) g25 (fun c26 => ?_) (fun c26 => ?_)
    · have hM := xit hM c26
      refine xj_aload_n C 0 dX9_reach_158 rfl rfl ?_
      refine xj_get C (fun _ h => List.mem_cons_of_mem _ (List.mem_append_right _ h)) 24 (eY_24 ad k r1) rfl 22 (by decide) (List.mem_of_getElem? (i := 4) rfl) (fun _ _ h => h) rfl dX9_reach_159 ?_
      refine xj_iload_n C 1 dX9_reach_162 rfl rfl ?_
      refine xj_iload C 3 dX9_reach_163 rfl ?_
      obtain ⟨g27, hM⟩ := xck_some hM
      refine xj_iast C 19 r1 19 (eY_19 ad k r1) (Nat.le_of_ble_eq_true rfl) g27 (sY_19 ad k r1 ((3 * (r1 13 (p1 / 3))) + (p1 % 3)) r24.2) dX9_reach_165 ?_
      refine xj_aload_n C 0 dX9_reach_166 rfl rfl ?_
      refine xj_iload_n C 2 dX9_reach_167 rfl rfl ?_
      obtain ⟨r28, hRr28, hM⟩ := xbd hM
      refine xj_callV C [.int (xi r24.1)] [] 1 (c_X9_follow hRr28) gX9_reach_X9_follow rfl ⟨rfl, rfl⟩ hv_X9_follow ⟨Nat.le_of_ble_eq_true rfl, Nat.le_of_ble_eq_true rfl⟩ 24 (eY_24 ad k _) rfl rfl (Nat.le_of_ble_eq_true rfl) dX9_reach_168 ?_
      refine xj_iconst C dX9_reach_171 ?_
      obtain rfl := Option.some.inj hM
      exact xj_zret (Or.inr rfl) C rfl dX9_reach_172
    · have hM := xif hM c26
      refine xj_iconst C dX9_reach_156 ?_
      obtain rfl := Option.some.inj hM
      exact xj_zret (Or.inl rfl) C rfl dX9_reach_157
  · have hM := xif hM c3
    refine xj_iload_n C 1 dX9_reach_10 rfl rfl ?_
    refine xj_bipush C (n := 30) (by decide) dX9_reach_11 ?_
    refine xj_isub C dX9_reach_13 ?_
    obtain ⟨r29, hRr29, hM⟩ := xbd hM
    refine xj_callS C [.int (xi (p1 - 30))] [] 1 (c_X9_outputWire hRr29) gX9_reach_X9_outputWire rfl ⟨rfl, rfl⟩ hv_X9_outputWire ⟨Nat.le_of_ble_eq_true rfl, Nat.le_of_ble_eq_true rfl⟩ rfl (Nat.le_of_ble_eq_true rfl) dX9_reach_14 ?_
    refine xj_istore_n C (L1 := [(2, .int (xi r29)), (0, .ref (ad 24)), (1, .int (xi p1))]) dX9_reach_17 rfl (by decide) rfl ?_
    refine xj_aload_n C 1 dX9_reach_18 rfl rfl ?_
    refine xj_get C (fun _ h => List.mem_cons_of_mem _ (List.mem_append_right _ h)) 24 (eY_24 ad k r1) rfl 21 (by decide) (List.mem_of_getElem? (i := 1) rfl) (fun _ _ h => h) rfl dX9_reach_19 ?_
    refine xj_iload_n C 0 dX9_reach_22 rfl rfl ?_
    obtain ⟨g30, hM⟩ := xck_some hM
    refine xj_iald C 18 r1 18 (eY_18 ad k r1) (Nat.le_of_ble_eq_true rfl) g30 dX9_reach_23 ?_
    refine xj_ldc C (n := 1000000) (List.mem_of_getElem? (i := 2) rfl) (by decide) dX9_reach_24 ?_
    obtain ⟨g31, hM⟩ := xck_some hM
    refine xj_icmp_lt C (tgt := 31) dX9_reach_26 (by decide) ⟨g31, (by decide)⟩ (fun c32 => ?_) (fun c32 => ?_)
    · have hM := xit hM c32
      refine xj_aload_n C 1 dX9_reach_31 rfl rfl ?_
      refine xj_iload_n C 0 dX9_reach_32 rfl rfl ?_
      obtain ⟨r33, hRr33, hM⟩ := xbd hM
      refine xj_callV C [.int (xi r29)] [] 1 (c_X9_follow hRr33) gX9_reach_X9_follow rfl ⟨rfl, rfl⟩ hv_X9_follow ⟨Nat.le_of_ble_eq_true rfl, Nat.le_of_ble_eq_true rfl⟩ 24 (eY_24 ad k _) rfl rfl (Nat.le_of_ble_eq_true rfl) dX9_reach_33 ?_
      refine xj_iconst C dX9_reach_36 ?_
      obtain rfl := Option.some.inj hM
      exact xj_zret (Or.inr rfl) C rfl dX9_reach_37
    · have hM := xif hM c32
      refine xj_iconst C dX9_reach_29 ?_
      obtain rfl := Option.some.inj hM
      exact xj_zret (Or.inl rfl) C rfl dX9_reach_30
