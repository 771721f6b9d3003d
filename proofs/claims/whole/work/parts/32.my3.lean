/-! mirrors and contracts (by program: wip/whole/gen.py, mkparts.py) -/
def rmX9_routeNet : Room := { frames := 6, cells := 0, slots := 0, locals := 146 }
theorem hv_X9_routeNet : yX9_routeNet.cls = RX9 ∧ yX9_routeNet.cls ≠ "java/lang/invoke/MethodHandle" ∧ yX9_routeNet.cls ≠ "java/lang/invoke/VarHandle" ∧ (parseMethodDescriptor yX9_routeNet.desc).map (fun d => d.parameters.length) = some 1 := by decide +kernel
def m_X9_routeNet_L2 (p1 : Int) : Nat → Int → xS → Option (xS)
  | 0, _, _ => none
  | n + 1, v2, S => xck (xr v2) (if 148 ≤ v2 then some S else xck ((0 ≤ v2 ∧ v2 < 148)) (m_X9_routeNet_L2 p1 n (v2 + 1) (xup S 17 v2 0)))
def m_X9_routeNet_L65 (p1 : Int) : Nat → Int → xS → Option ((xS) ⊕ (Int × xS))
  | 0, _, _ => none
  | n + 1, v3, S => xck (xr v3) (if 34 ≤ v3 then some (.inl S) else xck (0 ≤ v3 ∧ v3 < 34) (xck (xr (S 11 v3) ∧ xr p1) (if (S 11 v3) = p1 then (m_X9_reach v3 S).bind (fun r17 => xck (xr r17.1) (if r17.1 = 0 then some (.inr (0, r17.2)) else m_X9_routeNet_L65 p1 n (v3 + 1) r17.2)) else m_X9_routeNet_L65 p1 n (v3 + 1) S)))
def m_X9_routeNet_L99 : Nat → Int → xS → Option (xS)
  | 0, _, _ => none
  | n + 1, v3, S => xck (xr v3) (if 148 ≤ v3 then some S else xck (0 ≤ v3 ∧ v3 < 148) ((xck (xr (S 17 v3)) (if (S 17 v3) = 0 then some 0 else some 1)).bind (fun r26 => m_X9_routeNet_L99 n (v3 + 1) (xup S 15 v3 ((S 15 v3) + r26)))))
def m_X9_routeNet (p1 : Int) (S : xS) : Option (Int × xS) := (m_X9_routeNet_L2 p1 2000 0 S).bind (fun r4 => (xck (xr p1) (if 10 ≤ p1 then some (134 + p1) else ((if 10 ≤ p1 then some 0 else some p1)).bind (fun r8 => xck (0 ≤ r8 ∧ r8 < 10) (some (9 * (r4 13 r8)))))).bind (fun r5 => xck ((0 ≤ r5 ∧ r5 < 148)) ((m_X9_routeNet_L65 p1 2000 0 (xup r4 17 r5 1)).bind (fun r20 => match r20 with | .inl t21 => (m_X9_routeNet_L99 2000 0 t21).bind (fun r29 => some (1, r29)) | .inr y22 => some y22))))
set_option maxRecDepth 100000 in
set_option maxHeartbeats 4000000 in
theorem j_X9_routeNet_L2 {l : Launch} {D : va_G} {k : Nat → ClassId} {ad : Nat → Nat} {o : xO} {X : xX} (C : xC D k o X cX9_routeNet 4 RX9 wsX9_routeNet (some .boolean) rmX9_routeNet) (p1 : Int) : ∀ (n : Nat) (v2 : Int) (S : xS) (r : xS), m_X9_routeNet_L2 p1 n v2 S = some r → (xJ l D k o X 4 22 [(0, .ref (ad 24)), (1, .int (xi p1))] [] (wY ad k r)) → xJ l D k o X 4 2 [(0, .ref (ad 24)), (1, .int (xi p1)), (2, .int (xi v2))] [] (wY ad k S) := by
  intro n
  induction n with
  | zero =>
    intro v2 S r hM
    cases hM
  | succ n ih =>
    intro v2 S r hM K
    unfold m_X9_routeNet_L2 at hM
    refine xj_iload_n C 2 dX9_routeNet_2 rfl rfl ?_
    refine xj_sipush C (n := 148) (by decide) dX9_routeNet_3 ?_
    obtain ⟨g1, hM⟩ := xck_some hM
    refine xj_icmp_ge C (tgt := 22) dX9_routeNet_6 (by decide) ⟨g1, (by decide)⟩ (fun c2 => ?_) (fun c2 => ?_)
    · have hM := xit hM c2
      obtain rfl := Option.some.inj hM
      refine xj_loc C [0, 1] (L1 := [(0, .ref (ad 24)), (1, .int (xi p1))]) rfl ?_
      exact K
    · have hM := xif hM c2
      refine xj_aload_n C 0 dX9_routeNet_9 rfl rfl ?_
      refine xj_get C (fun _ h => List.mem_cons_of_mem _ (List.mem_append_right _ h)) 24 (eY_24 ad k S) rfl 20 (by decide) (List.mem_of_getElem? (i := 1) rfl) (fun _ _ h => h) rfl dX9_routeNet_10 ?_
      refine xj_iload_n C 2 dX9_routeNet_13 rfl rfl ?_
      refine xj_iconst C dX9_routeNet_14 ?_
      obtain ⟨g3, hM⟩ := xck_some hM
      refine xj_zast C 17 S 17 (eY_17 ad k S) (Nat.le_of_ble_eq_true rfl) (Or.inl rfl) g3 (sY_17 ad k S v2 0) dX9_routeNet_15 ?_
      refine xj_iinc C 2 (L1 := [(2, .int (xi (v2 + 1))), (0, .ref (ad 24)), (1, .int (xi p1))]) dX9_routeNet_16 rfl (by decide) rfl ?_
      refine xj_goto C (tgt := 2) dX9_routeNet_19 (by decide) ?_
      refine xj_loc C [1, 2, 0] (L1 := [(0, .ref (ad 24)), (1, .int (xi p1)), (2, .int (xi (v2 + 1)))]) rfl ?_
      exact ih _ _ _ hM K
set_option maxRecDepth 100000 in
set_option maxHeartbeats 4000000 in
theorem j_X9_routeNet_L65 {l : Launch} {D : va_G} {k : Nat → ClassId} {ad : Nat → Nat} {o : xO} {X : xX} (C : xC D k o X cX9_routeNet 4 RX9 wsX9_routeNet (some .boolean) rmX9_routeNet) (p1 : Int) : ∀ (n : Nat) (v3 : Int) (S : xS) (r : (xS) ⊕ (Int × xS)), m_X9_routeNet_L65 p1 n v3 S = some r → (∀ t, r = .inl t → xJ l D k o X 4 97 [(0, .ref (ad 24))] [] (wY ad k t)) → (∀ x, r = .inr x → o = (xo X D k (some (.int (xi x.1))) (wY ad k x.2))) → xJ l D k o X 4 65 [(0, .ref (ad 24)), (1, .int (xi p1)), (3, .int (xi v3))] [] (wY ad k S) := by
  intro n
  induction n with
  | zero =>
    intro v3 S r hM
    cases hM
  | succ n ih =>
    intro v3 S r hM K K2
    unfold m_X9_routeNet_L65 at hM
    refine xj_iload_n C 2 dX9_routeNet_65 rfl rfl ?_
    refine xj_bipush C (n := 34) (by decide) dX9_routeNet_66 ?_
    obtain ⟨g12, hM⟩ := xck_some hM
    refine xj_icmp_ge C (tgt := 97) dX9_routeNet_68 (by decide) ⟨g12, (by decide)⟩ (fun c13 => ?_) (fun c13 => ?_)
    · have hM := xit hM c13
      obtain rfl := Option.some.inj hM
      refine xj_loc C [0] (L1 := [(0, .ref (ad 24))]) rfl ?_
      exact K _ rfl
    · have hM := xif hM c13
      refine xj_aload_n C 0 dX9_routeNet_71 rfl rfl ?_
      refine xj_get C (fun _ h => List.mem_cons_of_mem _ (List.mem_append_right _ h)) 24 (eY_24 ad k S) rfl 12 (by decide) (List.mem_of_getElem? (i := 3) rfl) (fun _ _ h => h) rfl dX9_routeNet_72 ?_
      refine xj_iload_n C 2 dX9_routeNet_75 rfl rfl ?_
      obtain ⟨g14, hM⟩ := xck_some hM
      refine xj_iald C 11 S 11 (eY_11 ad k S) (Nat.le_of_ble_eq_true rfl) g14 dX9_routeNet_76 ?_
      refine xj_iload_n C 1 dX9_routeNet_77 rfl rfl ?_
      obtain ⟨g15, hM⟩ := xck_some hM
      refine xj_icmp_ne C (tgt := 91) dX9_routeNet_78 (by decide) ⟨g15.1, g15.2⟩ (fun c16 => ?_) (fun c16 => ?_)
      · have hM := xif hM c16
        refine xj_iinc C 2 (L1 := [(3, .int (xi (v3 + 1))), (0, .ref (ad 24)), (1, .int (xi p1))]) dX9_routeNet_91 rfl (by decide) rfl ?_
        refine xj_goto C (tgt := 65) dX9_routeNet_94 (by decide) ?_
        refine xj_loc C [1, 2, 0] (L1 := [(0, .ref (ad 24)), (1, .int (xi p1)), (3, .int (xi (v3 + 1)))]) rfl ?_
        exact ih _ _ _ hM K K2
      · have hM := xit hM c16
        refine xj_aload_n C 0 dX9_routeNet_81 rfl rfl ?_
        refine xj_iload_n C 2 dX9_routeNet_82 rfl rfl ?_
        obtain ⟨r17, hRr17, hM⟩ := xbd hM
        refine xj_callV C [.int (xi v3)] [] 1 (c_X9_reach hRr17) gX9_routeNet_X9_reach rfl ⟨rfl, rfl⟩ hv_X9_reach ⟨Nat.le_of_ble_eq_true rfl, Nat.le_of_ble_eq_true rfl⟩ 24 (eY_24 ad k _) rfl rfl (Nat.le_of_ble_eq_true rfl) dX9_routeNet_83 ?_
        obtain ⟨g18, hM⟩ := xck_some hM
        refine xj_if_ne C (tgt := 91) dX9_routeNet_86 (by decide) g18 (fun c19 => ?_) (fun c19 => ?_)
        · have hM := xif hM c19
          refine xj_iinc C 2 (L1 := [(3, .int (xi (v3 + 1))), (0, .ref (ad 24)), (1, .int (xi p1))]) dX9_routeNet_91 rfl (by decide) rfl ?_
          refine xj_goto C (tgt := 65) dX9_routeNet_94 (by decide) ?_
          refine xj_loc C [1, 2, 0] (L1 := [(0, .ref (ad 24)), (1, .int (xi p1)), (3, .int (xi (v3 + 1)))]) rfl ?_
          exact ih _ _ _ hM K K2
        · have hM := xit hM c19
          refine xj_iconst C dX9_routeNet_89 ?_
          obtain rfl := Option.some.inj hM
          obtain rfl := K2 _ rfl
          exact xj_zret (Or.inl rfl) C rfl dX9_routeNet_90
set_option maxRecDepth 100000 in
set_option maxHeartbeats 4000000 in
theorem j_X9_routeNet_L99 {l : Launch} {D : va_G} {k : Nat → ClassId} {ad : Nat → Nat} {o : xO} {X : xX} (C : xC D k o X cX9_routeNet 4 RX9 wsX9_routeNet (some .boolean) rmX9_routeNet) : ∀ (n : Nat) (v3 : Int) (S : xS) (r : xS), m_X9_routeNet_L99 n v3 S = some r → (xJ l D k o X 4 135 [] [] (wY ad k r)) → xJ l D k o X 4 99 [(0, .ref (ad 24)), (3, .int (xi v3))] [] (wY ad k S) := by
  intro n
  induction n with
  | zero =>
    intro v3 S r hM
    cases hM
  | succ n ih =>
    intro v3 S r hM K
    unfold m_X9_routeNet_L99 at hM
    refine xj_iload_n C 1 dX9_routeNet_99 rfl rfl ?_
    refine xj_sipush C (n := 148) (by decide) dX9_routeNet_100 ?_
    obtain ⟨g23, hM⟩ := xck_some hM
    refine xj_icmp_ge C (tgt := 135) dX9_routeNet_103 (by decide) ⟨g23, (by decide)⟩ (fun c24 => ?_) (fun c24 => ?_)
    · have hM := xit hM c24
      obtain rfl := Option.some.inj hM
      refine xj_loc C [] (L1 := []) rfl ?_
      exact K
    · have hM := xif hM c24
      refine xj_aload_n C 0 dX9_routeNet_106 rfl rfl ?_
      refine xj_get C (fun _ h => List.mem_cons_of_mem _ (List.mem_append_right _ h)) 24 (eY_24 ad k S) rfl 18 (by decide) (List.mem_of_getElem? (i := 4) rfl) (fun _ _ h => h) rfl dX9_routeNet_107 ?_
      refine xj_iload_n C 1 dX9_routeNet_110 rfl rfl ?_
      refine xj_dup2 C rfl rfl dX9_routeNet_111 ?_
      obtain ⟨g25, hM⟩ := xck_some hM
      refine xj_iald C 15 S 15 (eY_15 ad k S) (Nat.le_of_ble_eq_true rfl) g25 dX9_routeNet_112 ?_
      refine xj_aload_n C 0 dX9_routeNet_113 rfl rfl ?_
      refine xj_get C (fun _ h => List.mem_cons_of_mem _ (List.mem_append_right _ h)) 24 (eY_24 ad k S) rfl 20 (by decide) (List.mem_of_getElem? (i := 1) rfl) (fun _ _ h => h) rfl dX9_routeNet_114 ?_
      refine xj_iload_n C 1 dX9_routeNet_117 rfl rfl ?_
      refine xj_zald C 17 S 17 (eY_17 ad k S) (Nat.le_of_ble_eq_true rfl) g25 dX9_routeNet_118 ?_
      obtain ⟨r26, hRr26, hM⟩ := xbd hM
      have Kr26 : xJ l D k o X 4 127 [(0, .ref (ad 24)), (3, .int (xi v3))] [.int (xi r26), .int (xi (S 15 v3)), .int (xi v3), .ref (ad 15)] (wY ad k S) := by
        refine xj_iadd C dX9_routeNet_127 ?_
        refine xj_iast C 15 S 15 (eY_15 ad k S) (Nat.le_of_ble_eq_true rfl) g25 (sY_15 ad k S v3 ((S 15 v3) + r26)) dX9_routeNet_128 ?_
        refine xj_iinc C 1 (L1 := [(3, .int (xi (v3 + 1))), (0, .ref (ad 24))]) dX9_routeNet_129 rfl (by decide) rfl ?_
        refine xj_goto C (tgt := 99) dX9_routeNet_132 (by decide) ?_
        refine xj_loc C [1, 0] (L1 := [(0, .ref (ad 24)), (3, .int (xi (v3 + 1)))]) rfl ?_
        exact ih _ _ _ hM K
      clear hM
      have hM := hRr26
      obtain ⟨g27, hM⟩ := xck_some hM
      refine xj_if_eq C (tgt := 126) dX9_routeNet_119 (by decide) g27 (fun c28 => ?_) (fun c28 => ?_)
      · have hM := xit hM c28
        refine xj_iconst C dX9_routeNet_126 ?_
        obtain rfl := Option.some.inj hM
        exact Kr26
      · have hM := xif hM c28
        refine xj_iconst C dX9_routeNet_122 ?_
        refine xj_goto C (tgt := 127) dX9_routeNet_123 (by decide) ?_
        obtain rfl := Option.some.inj hM
        exact Kr26
set_option maxRecDepth 100000 in
set_option maxHeartbeats 4000000 in
theorem c_X9_routeNet {l : Launch} {D : va_G} {k : Nat → ClassId} {ad : Nat → Nat} {S : xS} {p1 : Int} {res : Int × xS} (hM : m_X9_routeNet p1 S = some res) : xM l yX9_routeNet wsX9_routeNet rmX9_routeNet D k [.ref (ad 24), .int (xi p1)] (wY ad k S) (some (.int (xi res.1))) (wY ad k res.2) := by
  refine xM_of (ret := (some .boolean)) (by decide) rfl (Nat.le_of_ble_eq_true rfl) (fun X C => ?_)
  have C : xC D k (xo X D k (some (.int (xi res.1))) (wY ad k res.2)) X cX9_routeNet 4 RX9 wsX9_routeNet (some .boolean) rmX9_routeNet := C
  show xJ l D k (xo X D k (some (.int (xi res.1))) (wY ad k res.2)) X 4 0 [(0, .ref (ad 24)), (1, .int (xi p1))] [] (wY ad k S)
  unfold m_X9_routeNet at hM
  refine xj_iconst C dX9_routeNet_0 ?_
  refine xj_istore_n C (L1 := [(2, .int (xi 0)), (0, .ref (ad 24)), (1, .int (xi p1))]) dX9_routeNet_1 rfl (by decide) rfl ?_
  obtain ⟨r4, hLr4, hM⟩ := xbd hM
  refine xj_loc C [1, 2, 0] (L1 := [(0, .ref (ad 24)), (1, .int (xi p1)), (2, .int (xi 0))]) rfl ?_
  refine j_X9_routeNet_L2 C p1 _ _ _ _ hLr4 ?_
  refine xj_iload_n C 1 dX9_routeNet_22 rfl rfl ?_
  refine xj_bipush C (n := 10) (by decide) dX9_routeNet_23 ?_
  obtain ⟨r5, hRr5, hM⟩ := xbd hM
  have Kr5 : xJ l D k (xo X D k (some (.int (xi res.1))) (wY ad k res.2)) X 4 55 [(0, .ref (ad 24)), (1, .int (xi p1))] [.int (xi r5)] (wY ad k r4) := by
    refine xj_istore_n C (L1 := [(2, .int (xi r5)), (0, .ref (ad 24)), (1, .int (xi p1))]) dX9_routeNet_55 rfl (by decide) rfl ?_
    refine xj_aload_n C 1 dX9_routeNet_56 rfl rfl ?_
    refine xj_get C (fun _ h => List.mem_cons_of_mem _ (List.mem_append_right _ h)) 24 (eY_24 ad k r4) rfl 20 (by decide) (List.mem_of_getElem? (i := 1) rfl) (fun _ _ h => h) rfl dX9_routeNet_57 ?_
    refine xj_iload_n C 0 dX9_routeNet_60 rfl rfl ?_
    refine xj_iconst C dX9_routeNet_61 ?_
    obtain ⟨g11, hM⟩ := xck_some hM
    refine xj_zast C 17 r4 17 (eY_17 ad k r4) (Nat.le_of_ble_eq_true rfl) (Or.inr rfl) g11 (sY_17 ad k r4 r5 1) dX9_routeNet_62 ?_
    refine xj_iconst C dX9_routeNet_63 ?_
    refine xj_istore_n C (L1 := [(3, .int (xi 0)), (2, .int (xi r5)), (0, .ref (ad 24)), (1, .int (xi p1))]) dX9_routeNet_64 rfl (by decide) rfl ?_
    obtain ⟨r20, hLr20, hM⟩ := xbd hM
    refine xj_loc C [2, 3, 0] (L1 := [(0, .ref (ad 24)), (1, .int (xi p1)), (3, .int (xi 0))]) rfl ?_
    rcases r20 with t21 | y22
    · refine j_X9_routeNet_L65 C p1 _ _ _ _ hLr20 (fun tz ez => ?_) (fun tz ez => by cases ez)
      obtain rfl := Sum.inl.inj ez
      try dsimp only at hM
      refine xj_iconst C dX9_routeNet_97 ?_
      refine xj_istore_n C (L1 := [(3, .int (xi 0)), (0, .ref (ad 24))]) dX9_routeNet_98 rfl (by decide) rfl ?_
      obtain ⟨r29, hLr29, hM⟩ := xbd hM
      refine xj_loc C [1, 0] (L1 := [(0, .ref (ad 24)), (3, .int (xi 0))]) rfl ?_
      refine j_X9_routeNet_L99 C _ _ _ _ hLr29 ?_
      refine xj_iconst C dX9_routeNet_135 ?_
      obtain rfl := Option.some.inj hM
      exact xj_zret (Or.inr rfl) C rfl dX9_routeNet_136
    · refine j_X9_routeNet_L65 C p1 _ _ _ _ hLr20 (fun tz ez => by cases ez) (fun tz ez => ?_)
      obtain rfl := Sum.inr.inj ez
      try dsimp only at hM
      obtain rfl := Option.some.inj hM
      rfl
  clear hM
  have hM := hRr5
  obtain ⟨g6, hM⟩ := xck_some hM
  refine xj_icmp_ge C (tgt := 50) dX9_routeNet_25 (by decide) ⟨g6, (by decide)⟩ (fun c7 => ?_) (fun c7 => ?_)
  · have hM := xit hM c7
    refine xj_sipush C (n := 134) (by decide) dX9_routeNet_50 ?_
    refine xj_iload_n C 1 dX9_routeNet_53 rfl rfl ?_
    refine xj_iadd C dX9_routeNet_54 ?_
    obtain rfl := Option.some.inj hM
    exact Kr5
  · have hM := xif hM c7
    refine xj_bipush C (n := 9) (by decide) dX9_routeNet_28 ?_
    refine xj_aload_n C 0 dX9_routeNet_30 rfl rfl ?_
    refine xj_get C (fun _ h => List.mem_cons_of_mem _ (List.mem_append_right _ h)) 24 (eY_24 ad k r4) rfl 16 (by decide) (List.mem_of_getElem? (i := 2) rfl) (fun _ _ h => h) rfl dX9_routeNet_31 ?_
    refine xj_iload_n C 1 dX9_routeNet_34 rfl rfl ?_
    refine xj_bipush C (n := 10) (by decide) dX9_routeNet_35 ?_
    obtain ⟨r8, hRr8, hM⟩ := xbd hM
    have Kr8 : xJ l D k (xo X D k (some (.int (xi res.1))) (wY ad k res.2)) X 4 45 [(0, .ref (ad 24)), (1, .int (xi p1))] [.int (xi r8), .ref (ad 13), .int (xi 9)] (wY ad k r4) := by
      obtain ⟨g10, hM⟩ := xck_some hM
      refine xj_iald C 13 r4 13 (eY_13 ad k r4) (Nat.le_of_ble_eq_true rfl) g10 dX9_routeNet_45 ?_
      refine xj_imul C dX9_routeNet_46 ?_
      refine xj_goto C (tgt := 55) dX9_routeNet_47 (by decide) ?_
      obtain rfl := Option.some.inj hM
      exact Kr5
    clear hM
    have hM := hRr8
    refine xj_icmp_ge C (tgt := 44) dX9_routeNet_37 (by decide) ⟨g6, (by decide)⟩ (fun c9 => ?_) (fun c9 => ?_)
    · have hM := xit hM c9
      refine xj_iconst C dX9_routeNet_44 ?_
      obtain rfl := Option.some.inj hM
      exact Kr8
    · have hM := xif hM c9
      refine xj_iload_n C 1 dX9_routeNet_40 rfl rfl ?_
      refine xj_goto C (tgt := 45) dX9_routeNet_41 (by decide) ?_
      obtain rfl := Option.some.inj hM
      exact Kr8
def rmX9_round : Room := { frames := 7, cells := 0, slots := 0, locals := 169 }
theorem hv_X9_round : yX9_round.cls = RX9 ∧ yX9_round.cls ≠ "java/lang/invoke/MethodHandle" ∧ yX9_round.cls ≠ "java/lang/invoke/VarHandle" ∧ (parseMethodDescriptor yX9_round.desc).map (fun d => d.parameters.length) = some 0 := by decide +kernel
def m_X9_round_L2 : Nat → Int → xS → Option (xS)
  | 0, _, _ => none
  | n + 1, v1, S => xck (xr v1) (if 148 ≤ v1 then some S else xck (0 ≤ v1 ∧ v1 < 148) (m_X9_round_L2 n (v1 + 1) (xup S 15 v1 0)))
def m_X9_round_L24 : Nat → Int → xS → Option (xS)
  | 0, _, _ => none
  | n + 1, v1, S => xck (xr v1) (if 48 ≤ v1 then some S else xck (0 ≤ v1 ∧ v1 < 48) (m_X9_round_L24 n (v1 + 1) (xup S 19 v1 0)))
def m_X9_round_L45 : Nat → Int → xS → Option (xS)
  | 0, _, _ => none
  | n + 1, v1, S => xck (xr v1) (if 128 ≤ v1 then some S else xck (0 ≤ v1 ∧ v1 < 128) (m_X9_round_L45 n (v1 + 1) (xup S 20 v1 0)))
def m_X9_round_L67 : Nat → Int → xS → Option ((xS) ⊕ (Int × xS))
  | 0, _, _ => none
  | n + 1, v1, S => xck (xr v1) (if 14 ≤ v1 then some (.inl S) else (m_X9_hasSinks v1 S).bind (fun r15 => xck (xr r15) (if r15 = 0 then m_X9_round_L67 n (v1 + 1) S else (m_X9_routeNet v1 S).bind (fun r18 => xck (xr r18.1) (if r18.1 = 0 then some (.inr ((-3), r18.2)) else m_X9_round_L67 n (v1 + 1) r18.2)))))
def m_X9_round_L102 : Nat → Int → Int → xS → Option (Int × xS)
  | 0, _, _, _ => none
  | n + 1, v1, v2, S => xck (xr v2) (if 148 ≤ v2 then some (v1, S) else xck (0 ≤ v2 ∧ v2 < 148) ((xck (xr (S 15 v2)) (if (S 15 v2) ≤ 1 then some (v1, S) else some (0, (xup S 16 v2 ((S 16 v2) + ((S 15 v2) - 1)))))).bind (fun r27 => m_X9_round_L102 n r27.1 (v2 + 1) r27.2)))
def m_X9_round (S : xS) : Option (Int × xS) := (m_X9_round_L2 2000 0 S).bind (fun r4 => (m_X9_round_L24 2000 0 r4).bind (fun r8 => (m_X9_round_L45 2000 0 r8).bind (fun r12 => (m_X9_round_L67 2000 0 r12).bind (fun r21 => match r21 with | .inl t22 => (m_X9_round_L102 2000 1 0 t22).bind (fun r30 => some (r30.1, r30.2)) | .inr y23 => some y23))))
set_option maxRecDepth 100000 in
set_option maxHeartbeats 4000000 in
theorem j_X9_round_L2 {l : Launch} {D : va_G} {k : Nat → ClassId} {ad : Nat → Nat} {o : xO} {X : xX} (C : xC D k o X cX9_round 3 RX9 wsX9_round (some .int) rmX9_round) : ∀ (n : Nat) (v1 : Int) (S : xS) (r : xS), m_X9_round_L2 n v1 S = some r → (xJ l D k o X 3 22 [(0, .ref (ad 24))] [] (wY ad k r)) → xJ l D k o X 3 2 [(0, .ref (ad 24)), (1, .int (xi v1))] [] (wY ad k S) := by
  intro n
  induction n with
  | zero =>
    intro v1 S r hM
    cases hM
  | succ n ih =>
    intro v1 S r hM K
    unfold m_X9_round_L2 at hM
    refine xj_iload_n C 1 dX9_round_2 rfl rfl ?_
    refine xj_sipush C (n := 148) (by decide) dX9_round_3 ?_
    obtain ⟨g1, hM⟩ := xck_some hM
    refine xj_icmp_ge C (tgt := 22) dX9_round_6 (by decide) ⟨g1, (by decide)⟩ (fun c2 => ?_) (fun c2 => ?_)
    · have hM := xit hM c2
      obtain rfl := Option.some.inj hM
      refine xj_loc C [0] (L1 := [(0, .ref (ad 24))]) rfl ?_
      exact K
    · have hM := xif hM c2
      refine xj_aload_n C 0 dX9_round_9 rfl rfl ?_
      refine xj_get C (fun _ h => List.mem_cons_of_mem _ (List.mem_append_right _ h)) 24 (eY_24 ad k S) rfl 18 (by decide) (List.mem_of_getElem? (i := 1) rfl) (fun _ _ h => h) rfl dX9_round_10 ?_
      refine xj_iload_n C 1 dX9_round_13 rfl rfl ?_
      refine xj_iconst C dX9_round_14 ?_
      obtain ⟨g3, hM⟩ := xck_some hM
      refine xj_iast C 15 S 15 (eY_15 ad k S) (Nat.le_of_ble_eq_true rfl) g3 (sY_15 ad k S v1 0) dX9_round_15 ?_
      refine xj_iinc C 1 (L1 := [(1, .int (xi (v1 + 1))), (0, .ref (ad 24))]) dX9_round_16 rfl (by decide) rfl ?_
      refine xj_goto C (tgt := 2) dX9_round_19 (by decide) ?_
      refine xj_loc C [1, 0] (L1 := [(0, .ref (ad 24)), (1, .int (xi (v1 + 1)))]) rfl ?_
      exact ih _ _ _ hM K
set_option maxRecDepth 100000 in
set_option maxHeartbeats 4000000 in
theorem j_X9_round_L24 {l : Launch} {D : va_G} {k : Nat → ClassId} {ad : Nat → Nat} {o : xO} {X : xX} (C : xC D k o X cX9_round 3 RX9 wsX9_round (some .int) rmX9_round) : ∀ (n : Nat) (v1 : Int) (S : xS) (r : xS), m_X9_round_L24 n v1 S = some r → (xJ l D k o X 3 43 [(0, .ref (ad 24))] [] (wY ad k r)) → xJ l D k o X 3 24 [(0, .ref (ad 24)), (1, .int (xi v1))] [] (wY ad k S) := by
  intro n
  induction n with
  | zero =>
    intro v1 S r hM
    cases hM
  | succ n ih =>
    intro v1 S r hM K
    unfold m_X9_round_L24 at hM
    refine xj_iload_n C 1 dX9_round_24 rfl rfl ?_
    refine xj_bipush C (n := 48) (by decide) dX9_round_25 ?_
    obtain ⟨g5, hM⟩ := xck_some hM
    refine xj_icmp_ge C (tgt := 43) dX9_round_27 (by decide) ⟨g5, (by decide)⟩ (fun c6 => ?_) (fun c6 => ?_)
    · have hM := xit hM c6
      obtain rfl := Option.some.inj hM
      refine xj_loc C [0] (L1 := [(0, .ref (ad 24))]) rfl ?_
      exact K
    · have hM := xif hM c6
      refine xj_aload_n C 0 dX9_round_30 rfl rfl ?_
      refine xj_get C (fun _ h => List.mem_cons_of_mem _ (List.mem_append_right _ h)) 24 (eY_24 ad k S) rfl 22 (by decide) (List.mem_of_getElem? (i := 2) rfl) (fun _ _ h => h) rfl dX9_round_31 ?_
      refine xj_iload_n C 1 dX9_round_34 rfl rfl ?_
      refine xj_iconst C dX9_round_35 ?_
      obtain ⟨g7, hM⟩ := xck_some hM
      refine xj_iast C 19 S 19 (eY_19 ad k S) (Nat.le_of_ble_eq_true rfl) g7 (sY_19 ad k S v1 0) dX9_round_36 ?_
      refine xj_iinc C 1 (L1 := [(1, .int (xi (v1 + 1))), (0, .ref (ad 24))]) dX9_round_37 rfl (by decide) rfl ?_
      refine xj_goto C (tgt := 24) dX9_round_40 (by decide) ?_
      refine xj_loc C [1, 0] (L1 := [(0, .ref (ad 24)), (1, .int (xi (v1 + 1)))]) rfl ?_
      exact ih _ _ _ hM K
set_option maxRecDepth 100000 in
set_option maxHeartbeats 4000000 in
theorem j_X9_round_L45 {l : Launch} {D : va_G} {k : Nat → ClassId} {ad : Nat → Nat} {o : xO} {X : xX} (C : xC D k o X cX9_round 3 RX9 wsX9_round (some .int) rmX9_round) : ∀ (n : Nat) (v1 : Int) (S : xS) (r : xS), m_X9_round_L45 n v1 S = some r → (xJ l D k o X 3 65 [(0, .ref (ad 24))] [] (wY ad k r)) → xJ l D k o X 3 45 [(0, .ref (ad 24)), (1, .int (xi v1))] [] (wY ad k S) := by
  intro n
  induction n with
  | zero =>
    intro v1 S r hM
    cases hM
  | succ n ih =>
    intro v1 S r hM K
    unfold m_X9_round_L45 at hM
    refine xj_iload_n C 1 dX9_round_45 rfl rfl ?_
    refine xj_sipush C (n := 128) (by decide) dX9_round_46 ?_
    obtain ⟨g9, hM⟩ := xck_some hM
    refine xj_icmp_ge C (tgt := 65) dX9_round_49 (by decide) ⟨g9, (by decide)⟩ (fun c10 => ?_) (fun c10 => ?_)
    · have hM := xit hM c10
      obtain rfl := Option.some.inj hM
      refine xj_loc C [0] (L1 := [(0, .ref (ad 24))]) rfl ?_
      exact K
    · have hM := xif hM c10
      refine xj_aload_n C 0 dX9_round_52 rfl rfl ?_
      refine xj_get C (fun _ h => List.mem_cons_of_mem _ (List.mem_append_right _ h)) 24 (eY_24 ad k S) rfl 23 (by decide) (List.mem_of_getElem? (i := 3) rfl) (fun _ _ h => h) rfl dX9_round_53 ?_
      refine xj_iload_n C 1 dX9_round_56 rfl rfl ?_
      refine xj_iconst C dX9_round_57 ?_
      obtain ⟨g11, hM⟩ := xck_some hM
      refine xj_iast C 20 S 20 (eY_20 ad k S) (Nat.le_of_ble_eq_true rfl) g11 (sY_20 ad k S v1 0) dX9_round_58 ?_
      refine xj_iinc C 1 (L1 := [(1, .int (xi (v1 + 1))), (0, .ref (ad 24))]) dX9_round_59 rfl (by decide) rfl ?_
      refine xj_goto C (tgt := 45) dX9_round_62 (by decide) ?_
      refine xj_loc C [1, 0] (L1 := [(0, .ref (ad 24)), (1, .int (xi (v1 + 1)))]) rfl ?_
      exact ih _ _ _ hM K
set_option maxRecDepth 100000 in
set_option maxHeartbeats 4000000 in
theorem j_X9_round_L67 {l : Launch} {D : va_G} {k : Nat → ClassId} {ad : Nat → Nat} {o : xO} {X : xX} (C : xC D k o X cX9_round 3 RX9 wsX9_round (some .int) rmX9_round) : ∀ (n : Nat) (v1 : Int) (S : xS) (r : (xS) ⊕ (Int × xS)), m_X9_round_L67 n v1 S = some r → (∀ t, r = .inl t → xJ l D k o X 3 98 [(0, .ref (ad 24))] [] (wY ad k t)) → (∀ x, r = .inr x → o = (xo X D k (some (.int (xi x.1))) (wY ad k x.2))) → xJ l D k o X 3 67 [(0, .ref (ad 24)), (1, .int (xi v1))] [] (wY ad k S) := by
  intro n
  induction n with
  | zero =>
    intro v1 S r hM
    cases hM
  | succ n ih =>
    intro v1 S r hM K K2
    unfold m_X9_round_L67 at hM
    refine xj_iload_n C 1 dX9_round_67 rfl rfl ?_
    refine xj_bipush C (n := 14) (by decide) dX9_round_68 ?_
    obtain ⟨g13, hM⟩ := xck_some hM
    refine xj_icmp_ge C (tgt := 98) dX9_round_70 (by decide) ⟨g13, (by decide)⟩ (fun c14 => ?_) (fun c14 => ?_)
    · have hM := xit hM c14
      obtain rfl := Option.some.inj hM
      refine xj_loc C [0] (L1 := [(0, .ref (ad 24))]) rfl ?_
      exact K _ rfl
    · have hM := xif hM c14
      refine xj_aload_n C 0 dX9_round_73 rfl rfl ?_
      refine xj_iload_n C 1 dX9_round_74 rfl rfl ?_
      obtain ⟨r15, hRr15, hM⟩ := xbd hM
      refine xj_callV C [.int (xi v1)] [] 1 (c_X9_hasSinks hRr15) gX9_round_X9_hasSinks rfl ⟨rfl, rfl⟩ hv_X9_hasSinks ⟨Nat.le_of_ble_eq_true rfl, Nat.le_of_ble_eq_true rfl⟩ 24 (eY_24 ad k _) rfl rfl (Nat.le_of_ble_eq_true rfl) dX9_round_75 ?_
      obtain ⟨g16, hM⟩ := xck_some hM
      refine xj_if_eq C (tgt := 92) dX9_round_78 (by decide) g16 (fun c17 => ?_) (fun c17 => ?_)
      · have hM := xit hM c17
        refine xj_iinc C 1 (L1 := [(1, .int (xi (v1 + 1))), (0, .ref (ad 24))]) dX9_round_92 rfl (by decide) rfl ?_
        refine xj_goto C (tgt := 67) dX9_round_95 (by decide) ?_
        refine xj_loc C [1, 0] (L1 := [(0, .ref (ad 24)), (1, .int (xi (v1 + 1)))]) rfl ?_
        exact ih _ _ _ hM K K2
      · have hM := xif hM c17
        refine xj_aload_n C 0 dX9_round_81 rfl rfl ?_
        refine xj_iload_n C 1 dX9_round_82 rfl rfl ?_
        obtain ⟨r18, hRr18, hM⟩ := xbd hM
        refine xj_callV C [.int (xi v1)] [] 1 (c_X9_routeNet hRr18) gX9_round_X9_routeNet rfl ⟨rfl, rfl⟩ hv_X9_routeNet ⟨Nat.le_of_ble_eq_true rfl, Nat.le_of_ble_eq_true rfl⟩ 24 (eY_24 ad k _) rfl rfl (Nat.le_of_ble_eq_true rfl) dX9_round_83 ?_
        obtain ⟨g19, hM⟩ := xck_some hM
        refine xj_if_ne C (tgt := 92) dX9_round_86 (by decide) g19 (fun c20 => ?_) (fun c20 => ?_)
        · have hM := xif hM c20
          refine xj_iinc C 1 (L1 := [(1, .int (xi (v1 + 1))), (0, .ref (ad 24))]) dX9_round_92 rfl (by decide) rfl ?_
          refine xj_goto C (tgt := 67) dX9_round_95 (by decide) ?_
          refine xj_loc C [1, 0] (L1 := [(0, .ref (ad 24)), (1, .int (xi (v1 + 1)))]) rfl ?_
          exact ih _ _ _ hM K K2
        · have hM := xit hM c20
          refine xj_bipush C (n := (-3)) (by decide) dX9_round_89 ?_
          obtain rfl := Option.some.inj hM
          obtain rfl := K2 _ rfl
          exact xj_iret C rfl dX9_round_91
set_option maxRecDepth 100000 in
set_option maxHeartbeats 4000000 in
theorem j_X9_round_L102 {l : Launch} {D : va_G} {k : Nat → ClassId} {ad : Nat → Nat} {o : xO} {X : xX} (C : xC D k o X cX9_round 3 RX9 wsX9_round (some .int) rmX9_round) : ∀ (n : Nat) (v1 : Int) (v2 : Int) (S : xS) (r : Int × xS), m_X9_round_L102 n v1 v2 S = some r → (xJ l D k o X 3 144 [(1, .int (xi r.1))] [] (wY ad k r.2)) → xJ l D k o X 3 102 [(0, .ref (ad 24)), (1, .int (xi v1)), (2, .int (xi v2))] [] (wY ad k S) := by
  intro n
  induction n with
  | zero =>
    intro v1 v2 S r hM
    cases hM
  | succ n ih =>
    intro v1 v2 S r hM K
    unfold m_X9_round_L102 at hM
    refine xj_iload_n C 2 dX9_round_102 rfl rfl ?_
    refine xj_sipush C (n := 148) (by decide) dX9_round_103 ?_
    obtain ⟨g24, hM⟩ := xck_some hM
    refine xj_icmp_ge C (tgt := 144) dX9_round_106 (by decide) ⟨g24, (by decide)⟩ (fun c25 => ?_) (fun c25 => ?_)
    · have hM := xit hM c25
      obtain rfl := Option.some.inj hM
      refine xj_loc C [1] (L1 := [(1, .int (xi v1))]) rfl ?_
      exact K
    · have hM := xif hM c25
      refine xj_aload_n C 0 dX9_round_109 rfl rfl ?_
      refine xj_get C (fun _ h => List.mem_cons_of_mem _ (List.mem_append_right _ h)) 24 (eY_24 ad k S) rfl 18 (by decide) (List.mem_of_getElem? (i := 1) rfl) (fun _ _ h => h) rfl dX9_round_110 ?_
      refine xj_iload_n C 2 dX9_round_113 rfl rfl ?_
      obtain ⟨g26, hM⟩ := xck_some hM
      refine xj_iald C 15 S 15 (eY_15 ad k S) (Nat.le_of_ble_eq_true rfl) g26 dX9_round_114 ?_
      refine xj_iconst C dX9_round_115 ?_
      obtain ⟨r27, hRr27, hM⟩ := xbd hM
      have Kr27 : xJ l D k o X 3 138 [(0, .ref (ad 24)), (1, .int (xi r27.1)), (2, .int (xi v2))] [] (wY ad k r27.2) := by
        refine xj_iinc C 2 (L1 := [(2, .int (xi (v2 + 1))), (0, .ref (ad 24)), (1, .int (xi r27.1))]) dX9_round_138 rfl (by decide) rfl ?_
        refine xj_goto C (tgt := 102) dX9_round_141 (by decide) ?_
        refine xj_loc C [1, 2, 0] (L1 := [(0, .ref (ad 24)), (1, .int (xi r27.1)), (2, .int (xi (v2 + 1)))]) rfl ?_
        exact ih _ _ _ _ hM K
      clear hM
      have hM := hRr27
      obtain ⟨g28, hM⟩ := xck_some hM
      refine xj_icmp_le C (tgt := 138) dX9_round_116 (by decide) ⟨g28, (by decide)⟩ (fun c29 => ?_) (fun c29 => ?_)
      · have hM := xit hM c29
        obtain rfl := Option.some.inj hM
        exact Kr27
      · have hM := xif hM c29
        refine xj_aload_n C 0 dX9_round_119 rfl rfl ?_
        refine xj_get C (fun _ h => List.mem_cons_of_mem _ (List.mem_append_right _ h)) 24 (eY_24 ad k S) rfl 19 (by decide) (List.mem_of_getElem? (i := 4) rfl) (fun _ _ h => h) rfl dX9_round_120 ?_
        refine xj_iload_n C 2 dX9_round_123 rfl rfl ?_
        refine xj_dup2 C rfl rfl dX9_round_124 ?_
        refine xj_iald C 16 S 16 (eY_16 ad k S) (Nat.le_of_ble_eq_true rfl) g26 dX9_round_125 ?_
        refine xj_aload_n C 0 dX9_round_126 rfl rfl ?_
        refine xj_get C (fun _ h => List.mem_cons_of_mem _ (List.mem_append_right _ h)) 24 (eY_24 ad k S) rfl 18 (by decide) (List.mem_of_getElem? (i := 1) rfl) (fun _ _ h => h) rfl dX9_round_127 ?_
        refine xj_iload_n C 2 dX9_round_130 rfl rfl ?_
        refine xj_iald C 15 S 15 (eY_15 ad k S) (Nat.le_of_ble_eq_true rfl) g26 dX9_round_131 ?_
        refine xj_iconst C dX9_round_132 ?_
        refine xj_isub C dX9_round_133 ?_
        refine xj_iadd C dX9_round_134 ?_
        refine xj_iast C 16 S 16 (eY_16 ad k S) (Nat.le_of_ble_eq_true rfl) g26 (sY_16 ad k S v2 ((S 16 v2) + ((S 15 v2) - 1))) dX9_round_135 ?_
        refine xj_iconst C dX9_round_136 ?_
        refine xj_istore_n C (L1 := [(1, .int (xi 0)), (0, .ref (ad 24)), (2, .int (xi v2))]) dX9_round_137 rfl (by decide) rfl ?_
        obtain rfl := Option.some.inj hM
        refine xj_loc C [1, 0, 2] (L1 := [(0, .ref (ad 24)), (1, .int (xi 0)), (2, .int (xi v2))]) rfl ?_
        exact Kr27
set_option maxRecDepth 100000 in
set_option maxHeartbeats 4000000 in
theorem c_X9_round {l : Launch} {D : va_G} {k : Nat → ClassId} {ad : Nat → Nat} {S : xS} {res : Int × xS} (hM : m_X9_round S = some res) : xM l yX9_round wsX9_round rmX9_round D k [.ref (ad 24)] (wY ad k S) (some (.int (xi res.1))) (wY ad k res.2) := by
  refine xM_of (ret := (some .int)) (by decide) rfl (Nat.le_of_ble_eq_true rfl) (fun X C => ?_)
  have C : xC D k (xo X D k (some (.int (xi res.1))) (wY ad k res.2)) X cX9_round 3 RX9 wsX9_round (some .int) rmX9_round := C
  show xJ l D k (xo X D k (some (.int (xi res.1))) (wY ad k res.2)) X 3 0 [(0, .ref (ad 24))] [] (wY ad k S)
  unfold m_X9_round at hM
  refine xj_iconst C dX9_round_0 ?_
  refine xj_istore_n C (L1 := [(1, .int (xi 0)), (0, .ref (ad 24))]) dX9_round_1 rfl (by decide) rfl ?_
  obtain ⟨r4, hLr4, hM⟩ := xbd hM
  refine xj_loc C [1, 0] (L1 := [(0, .ref (ad 24)), (1, .int (xi 0))]) rfl ?_
  refine j_X9_round_L2 C _ _ _ _ hLr4 ?_
  refine xj_iconst C dX9_round_22 ?_
  refine xj_istore_n C (L1 := [(1, .int (xi 0)), (0, .ref (ad 24))]) dX9_round_23 rfl (by decide) rfl ?_
  obtain ⟨r8, hLr8, hM⟩ := xbd hM
  refine xj_loc C [1, 0] (L1 := [(0, .ref (ad 24)), (1, .int (xi 0))]) rfl ?_
  refine j_X9_round_L24 C _ _ _ _ hLr8 ?_
  refine xj_iconst C dX9_round_43 ?_
  refine xj_istore_n C (L1 := [(1, .int (xi 0)), (0, .ref (ad 24))]) dX9_round_44 rfl (by decide) rfl ?_
  obtain ⟨r12, hLr12, hM⟩ := xbd hM
  refine xj_loc C [1, 0] (L1 := [(0, .ref (ad 24)), (1, .int (xi 0))]) rfl ?_
  refine j_X9_round_L45 C _ _ _ _ hLr12 ?_
  refine xj_iconst C dX9_round_65 ?_
  refine xj_istore_n C (L1 := [(1, .int (xi 0)), (0, .ref (ad 24))]) dX9_round_66 rfl (by decide) rfl ?_
  obtain ⟨r21, hLr21, hM⟩ := xbd hM
  refine xj_loc C [1, 0] (L1 := [(0, .ref (ad 24)), (1, .int (xi 0))]) rfl ?_
  rcases r21 with t22 | y23
  · refine j_X9_round_L67 C _ _ _ _ hLr21 (fun tz ez => ?_) (fun tz ez => by cases ez)
    obtain rfl := Sum.inl.inj ez
    try dsimp only at hM
    refine xj_iconst C dX9_round_98 ?_
    refine xj_istore_n C (L1 := [(1, .int (xi 1)), (0, .ref (ad 24))]) dX9_round_99 rfl (by decide) rfl ?_
    refine xj_iconst C dX9_round_100 ?_
    refine xj_istore_n C (L1 := [(2, .int (xi 0)), (1, .int (xi 1)), (0, .ref (ad 24))]) dX9_round_101 rfl (by decide) rfl ?_
    obtain ⟨r30, hLr30, hM⟩ := xbd hM
    refine xj_loc C [2, 1, 0] (L1 := [(0, .ref (ad 24)), (1, .int (xi 1)), (2, .int (xi 0))]) rfl ?_
    refine j_X9_round_L102 C _ _ _ _ _ hLr30 ?_
    refine xj_iload_n C 0 dX9_round_144 rfl rfl ?_
    obtain rfl := Option.some.inj hM
    exact xj_iret C rfl dX9_round_145
  · refine j_X9_round_L67 C _ _ _ _ hLr21 (fun tz ez => by cases ez) (fun tz ez => ?_)
    obtain rfl := Sum.inr.inj ez
    try dsimp only at hM
    obtain rfl := Option.some.inj hM
    rfl
def rmX9_makeBits : Room := { frames := 3, cells := 0, slots := 0, locals := 71 }
theorem hv_X9_makeBits : yX9_makeBits.cls = RX9 ∧ yX9_makeBits.cls ≠ "java/lang/invoke/MethodHandle" ∧ yX9_makeBits.cls ≠ "java/lang/invoke/VarHandle" ∧ (parseMethodDescriptor yX9_makeBits.desc).map (fun d => d.parameters.length) = some 0 := by decide +kernel
def m_X9_makeBits_L2 : Nat → Int → xS → Option (xS)
  | 0, _, _ => none
  | n + 1, v1, S => xck (xr v1) (if 16 ≤ v1 then some S else xck (0 ≤ v1 ∧ v1 < 16) ((xck (xr (S 14 v1)) (if (S 14 v1) < 0 then some 0 else ((if 0 ≤ (S 14 v1) then some (S 14 v1) else some 0)).bind (fun r7 => xck (0 ≤ r7 ∧ r7 < 10) (xck (xr (S 7 r7)) (if (S 7 r7) = 0 then some 0 else some 1))))).bind (fun r4 => (xck (xr r4 ∧ xr (S 1 v1)) (if r4 = (S 1 v1) then some (S 5 v1) else some 0)).bind (fun r12 => (xck (xr (S 14 v1)) (if 0 ≤ (S 14 v1) then xck (0 ≤ (S 14 v1) ∧ (S 14 v1) < 10) (some (S 6 (S 14 v1))) else some 0)).bind (fun r15 => xck ((0 ≤ v1 ∧ v1 < 16) ∧ (r4 = 0 ∨ r4 = 1)) ((xck (xr (S 14 v1)) (if (S 14 v1) < 0 then some 0 else ((if 0 ≤ (S 14 v1) then some (S 14 v1) else some 0)).bind (fun r23 => xck (0 ≤ r23 ∧ r23 < 10) (xck (xr (S 8 r23)) (if (S 8 r23) = 0 then some 0 else some 1))))).bind (fun r20 => xck ((r20 = 0 ∨ r20 = 1)) (m_X9_makeBits_L2 n (v1 + 1) (xup (xup (xup (xup S 5 v1 r12) 0 v1 r15) 1 v1 r4) 2 v1 r20)))))))))
def m_X9_makeBits_L135 : Nat → Int → xS → Option (xS)
  | 0, _, _ => none
  | n + 1, v1, S => xck (xr v1) (if 48 ≤ v1 then some S else xck (0 ≤ v1 ∧ v1 < 48) (m_X9_makeBits_L135 n (v1 + 1) (xup S 3 v1 (S 19 v1))))
def m_X9_makeBits_L161 : Nat → Int → xS → Option (xS)
  | 0, _, _ => none
  | n + 1, v1, S => xck (xr v1) (if 128 ≤ v1 then some S else xck (0 ≤ v1 ∧ v1 < 128) (m_X9_makeBits_L161 n (v1 + 1) (xup S 4 v1 (S 20 v1))))
def m_X9_makeBits_L204 : Nat → Int → xS → Option (xS)
  | 0, _, _ => none
  | n + 1, v1, S => xck (xr v1 ∧ xr (S 50 0)) (if (S 50 0) ≤ v1 then some S else xck (0 ≤ v1 ∧ v1 < 10) (m_X9_makeBits_L204 n (v1 + 1) (xup S 12 v1 (S 13 v1))))
def m_X9_makeBits (S : xS) : Option (xS) := (m_X9_makeBits_L2 2000 0 S).bind (fun r29 => (m_X9_makeBits_L135 2000 0 r29).bind (fun r33 => (m_X9_makeBits_L161 2000 0 r33).bind (fun r37 => (m_X9_placeCost (xup r37 51 0 (r37 50 0))).bind (fun r38 => (m_X9_makeBits_L204 2000 0 (xup (xup r37 51 0 (r37 50 0)) 52 0 r38)).bind (fun r42 => some r42)))))
set_option maxRecDepth 100000 in
set_option maxHeartbeats 4000000 in
theorem j_X9_makeBits_L2 {l : Launch} {D : va_G} {k : Nat → ClassId} {ad : Nat → Nat} {o : xO} {X : xX} (C : xC D k o X cX9_makeBits 4 RX9 wsX9_makeBits none rmX9_makeBits) : ∀ (n : Nat) (v1 : Int) (S : xS) (r : xS), m_X9_makeBits_L2 n v1 S = some r → (xJ l D k o X 4 133 [(0, .ref (ad 24))] [] (wY ad k r)) → xJ l D k o X 4 2 [(0, .ref (ad 24)), (1, .int (xi v1))] [] (wY ad k S) := by
  intro n
  induction n with
  | zero =>
    intro v1 S r hM
    cases hM
  | succ n ih =>
    intro v1 S r hM K
    unfold m_X9_makeBits_L2 at hM
    refine xj_iload_n C 1 dX9_makeBits_2 rfl rfl ?_
    refine xj_bipush C (n := 16) (by decide) dX9_makeBits_3 ?_
    obtain ⟨g1, hM⟩ := xck_some hM
    refine xj_icmp_ge C (tgt := 133) dX9_makeBits_5 (by decide) ⟨g1, (by decide)⟩ (fun c2 => ?_) (fun c2 => ?_)
    · have hM := xit hM c2
      obtain rfl := Option.some.inj hM
      refine xj_loc C [0] (L1 := [(0, .ref (ad 24))]) rfl ?_
      exact K
    · have hM := xif hM c2
      refine xj_aload_n C 0 dX9_makeBits_8 rfl rfl ?_
      refine xj_get C (fun _ h => List.mem_cons_of_mem _ (List.mem_append_right _ h)) 24 (eY_24 ad k S) rfl 17 (by decide) (List.mem_of_getElem? (i := 1) rfl) (fun _ _ h => h) rfl dX9_makeBits_9 ?_
      refine xj_iload_n C 1 dX9_makeBits_12 rfl rfl ?_
      obtain ⟨g3, hM⟩ := xck_some hM
      refine xj_iald C 14 S 14 (eY_14 ad k S) (Nat.le_of_ble_eq_true rfl) g3 dX9_makeBits_13 ?_
      refine xj_istore_n C (L1 := [(2, .int (xi (S 14 v1))), (0, .ref (ad 24)), (1, .int (xi v1))]) dX9_makeBits_14 rfl (by decide) rfl ?_
      refine xj_iload_n C 0 dX9_makeBits_15 rfl rfl ?_
      obtain ⟨r4, hRr4, hM⟩ := xbd hM
      have Kr4 : xJ l D k o X 4 41 [(0, .ref (ad 24)), (1, .int (xi v1)), (2, .int (xi (S 14 v1)))] [.int (xi r4)] (wY ad k S) := by
        refine xj_istore_n C (L1 := [(3, .int (xi r4)), (0, .ref (ad 24)), (1, .int (xi v1)), (2, .int (xi (S 14 v1)))]) dX9_makeBits_41 rfl (by decide) rfl ?_
        refine xj_aload_n C 1 dX9_makeBits_42 rfl rfl ?_
        refine xj_get C (fun _ h => List.mem_cons_of_mem _ (List.mem_append_right _ h)) 24 (eY_24 ad k S) rfl 5 (by decide) (List.mem_of_getElem? (i := 3) rfl) (fun _ _ h => h) rfl dX9_makeBits_43 ?_
        refine xj_iload_n C 2 dX9_makeBits_46 rfl rfl ?_
        refine xj_iload_n C 0 dX9_makeBits_47 rfl rfl ?_
        refine xj_aload_n C 1 dX9_makeBits_48 rfl rfl ?_
        refine xj_get C (fun _ h => List.mem_cons_of_mem _ (List.mem_append_right _ h)) 24 (eY_24 ad k S) rfl 1 (by decide) (List.mem_of_getElem? (i := 4) rfl) (fun _ _ h => h) rfl dX9_makeBits_49 ?_
        refine xj_iload_n C 2 dX9_makeBits_52 rfl rfl ?_
        refine xj_zald C 1 S 1 (eY_1 ad k S) (Nat.le_of_ble_eq_true rfl) g3 dX9_makeBits_53 ?_
        obtain ⟨r12, hRr12, hM⟩ := xbd hM
        have Kr12 : xJ l D k o X 4 67 [(0, .ref (ad 24)), (1, .int (xi v1)), (2, .int (xi (S 14 v1))), (3, .int (xi r4))] [.int (xi r12), .int (xi v1), .ref (ad 5)] (wY ad k S) := by
          refine xj_iast C 5 S 5 (eY_5 ad k S) (Nat.le_of_ble_eq_true rfl) g3 (sY_5 ad k S v1 r12) dX9_makeBits_67 ?_
          refine xj_aload_n C 0 dX9_makeBits_68 rfl rfl ?_
          refine xj_get C (fun _ h => List.mem_cons_of_mem _ (List.mem_append_right _ h)) 24 (eY_24 ad k (xup S 5 v1 r12)) rfl 0 (by decide) (List.mem_of_getElem? (i := 5) rfl) (fun _ _ h => h) rfl dX9_makeBits_69 ?_
          refine xj_iload_n C 1 dX9_makeBits_72 rfl rfl ?_
          refine xj_iload_n C 2 dX9_makeBits_73 rfl rfl ?_
          obtain ⟨r15, hRr15, hM⟩ := xbd hM
          have Kr15 : xJ l D k o X 4 87 [(0, .ref (ad 24)), (1, .int (xi v1)), (2, .int (xi (S 14 v1))), (3, .int (xi r4))] [.int (xi r15), .int (xi v1), .ref (ad 0)] (wY ad k (xup S 5 v1 r12)) := by
            refine xj_iast C 0 (xup S 5 v1 r12) 0 (eY_0 ad k (xup S 5 v1 r12)) (Nat.le_of_ble_eq_true rfl) g3 (sY_0 ad k (xup S 5 v1 r12) v1 r15) dX9_makeBits_87 ?_
            refine xj_aload_n C 0 dX9_makeBits_88 rfl rfl ?_
            refine xj_get C (fun _ h => List.mem_cons_of_mem _ (List.mem_append_right _ h)) 24 (eY_24 ad k (xup (xup S 5 v1 r12) 0 v1 r15)) rfl 1 (by decide) (List.mem_of_getElem? (i := 4) rfl) (fun _ _ h => h) rfl dX9_makeBits_89 ?_
            refine xj_iload_n C 1 dX9_makeBits_92 rfl rfl ?_
            refine xj_iload_n C 3 dX9_makeBits_93 rfl rfl ?_
            obtain ⟨g19, hM⟩ := xck_some hM
            refine xj_zast C 1 (xup (xup S 5 v1 r12) 0 v1 r15) 1 (eY_1 ad k (xup (xup S 5 v1 r12) 0 v1 r15)) (Nat.le_of_ble_eq_true rfl) g19.2 g19.1 (sY_1 ad k (xup (xup S 5 v1 r12) 0 v1 r15) v1 r4) dX9_makeBits_94 ?_
            refine xj_aload_n C 0 dX9_makeBits_95 rfl rfl ?_
            refine xj_get C (fun _ h => List.mem_cons_of_mem _ (List.mem_append_right _ h)) 24 (eY_24 ad k (xup (xup (xup S 5 v1 r12) 0 v1 r15) 1 v1 r4)) rfl 2 (by decide) (List.mem_of_getElem? (i := 7) rfl) (fun _ _ h => h) rfl dX9_makeBits_96 ?_
            refine xj_iload_n C 1 dX9_makeBits_99 rfl rfl ?_
            refine xj_iload_n C 2 dX9_makeBits_100 rfl rfl ?_
            obtain ⟨r20, hRr20, hM⟩ := xbd hM
            have Kr20 : xJ l D k o X 4 126 [(0, .ref (ad 24)), (1, .int (xi v1))] [.int (xi r20), .int (xi v1), .ref (ad 2)] (wY ad k (xup (xup (xup S 5 v1 r12) 0 v1 r15) 1 v1 r4)) := by
              obtain ⟨g28, hM⟩ := xck_some hM
              refine xj_zast C 2 (xup (xup (xup S 5 v1 r12) 0 v1 r15) 1 v1 r4) 2 (eY_2 ad k (xup (xup (xup S 5 v1 r12) 0 v1 r15) 1 v1 r4)) (Nat.le_of_ble_eq_true rfl) g28 g19.1 (sY_2 ad k (xup (xup (xup S 5 v1 r12) 0 v1 r15) 1 v1 r4) v1 r20) dX9_makeBits_126 ?_
              refine xj_iinc C 1 (L1 := [(1, .int (xi (v1 + 1))), (0, .ref (ad 24))]) dX9_makeBits_127 rfl (by decide) rfl ?_
              refine xj_goto C (tgt := 2) dX9_makeBits_130 (by decide) ?_
              refine xj_loc C [1, 0] (L1 := [(0, .ref (ad 24)), (1, .int (xi (v1 + 1)))]) rfl ?_
              exact ih _ _ _ hM K
            clear hM
            have hM := hRr20
            obtain ⟨g21, hM⟩ := xck_some hM
            refine xj_if_lt C (tgt := 125) dX9_makeBits_101 (by decide) g21 (fun c22 => ?_) (fun c22 => ?_)
            · have hM := xit hM c22
              refine xj_iconst C dX9_makeBits_125 ?_
              obtain rfl := Option.some.inj hM
              refine xj_loc C [0, 1] (L1 := [(0, .ref (ad 24)), (1, .int (xi v1))]) rfl ?_
              exact Kr20
            · have hM := xif hM c22
              refine xj_aload_n C 0 dX9_makeBits_104 rfl rfl ?_
              refine xj_get C (fun _ h => List.mem_cons_of_mem _ (List.mem_append_right _ h)) 24 (eY_24 ad k (xup (xup (xup S 5 v1 r12) 0 v1 r15) 1 v1 r4)) rfl 9 (by decide) (List.mem_of_getElem? (i := 8) rfl) (fun _ _ h => h) rfl dX9_makeBits_105 ?_
              refine xj_iload_n C 2 dX9_makeBits_108 rfl rfl ?_
              obtain ⟨r23, hRr23, hM⟩ := xbd hM
              have Kr23 : xJ l D k o X 4 117 [(0, .ref (ad 24)), (1, .int (xi v1))] [.int (xi r23), .ref (ad 8), .int (xi v1), .ref (ad 2)] (wY ad k (xup (xup (xup S 5 v1 r12) 0 v1 r15) 1 v1 r4)) := by
                obtain ⟨g25, hM⟩ := xck_some hM
                refine xj_zald C 8 S 8 (eY_8 ad k (xup (xup (xup S 5 v1 r12) 0 v1 r15) 1 v1 r4)) (Nat.le_of_ble_eq_true rfl) g25 dX9_makeBits_117 ?_
                obtain ⟨g26, hM⟩ := xck_some hM
                refine xj_if_eq C (tgt := 125) dX9_makeBits_118 (by decide) g26 (fun c27 => ?_) (fun c27 => ?_)
                · have hM := xit hM c27
                  refine xj_iconst C dX9_makeBits_125 ?_
                  obtain rfl := Option.some.inj hM
                  exact Kr20
                · have hM := xif hM c27
                  refine xj_iconst C dX9_makeBits_121 ?_
                  refine xj_goto C (tgt := 126) dX9_makeBits_122 (by decide) ?_
                  obtain rfl := Option.some.inj hM
                  exact Kr20
              clear hM
              have hM := hRr23
              refine xj_if_ge C (tgt := 116) dX9_makeBits_109 (by decide) g21 (fun c24 => ?_) (fun c24 => ?_)
              · have hM := xit hM c24
                refine xj_iload_n C 2 dX9_makeBits_116 rfl rfl ?_
                obtain rfl := Option.some.inj hM
                refine xj_loc C [0, 1] (L1 := [(0, .ref (ad 24)), (1, .int (xi v1))]) rfl ?_
                exact Kr23
              · have hM := xif hM c24
                refine xj_iconst C dX9_makeBits_112 ?_
                refine xj_goto C (tgt := 117) dX9_makeBits_113 (by decide) ?_
                obtain rfl := Option.some.inj hM
                refine xj_loc C [0, 1] (L1 := [(0, .ref (ad 24)), (1, .int (xi v1))]) rfl ?_
                exact Kr23
          clear hM
          have hM := hRr15
          obtain ⟨g16, hM⟩ := xck_some hM
          refine xj_if_ge C (tgt := 81) dX9_makeBits_74 (by decide) g16 (fun c17 => ?_) (fun c17 => ?_)
          · have hM := xit hM c17
            refine xj_aload_n C 0 dX9_makeBits_81 rfl rfl ?_
            refine xj_get C (fun _ h => List.mem_cons_of_mem _ (List.mem_append_right _ h)) 24 (eY_24 ad k (xup S 5 v1 r12)) rfl 7 (by decide) (List.mem_of_getElem? (i := 6) rfl) (fun _ _ h => h) rfl dX9_makeBits_82 ?_
            refine xj_iload_n C 2 dX9_makeBits_85 rfl rfl ?_
            obtain ⟨g18, hM⟩ := xck_some hM
            refine xj_iald C 6 S 6 (eY_6 ad k (xup S 5 v1 r12)) (Nat.le_of_ble_eq_true rfl) g18 dX9_makeBits_86 ?_
            obtain rfl := Option.some.inj hM
            exact Kr15
          · have hM := xif hM c17
            refine xj_iconst C dX9_makeBits_77 ?_
            refine xj_goto C (tgt := 87) dX9_makeBits_78 (by decide) ?_
            obtain rfl := Option.some.inj hM
            exact Kr15
        clear hM
        have hM := hRr12
        obtain ⟨g13, hM⟩ := xck_some hM
        refine xj_icmp_ne C (tgt := 66) dX9_makeBits_54 (by decide) ⟨g13.1, g13.2⟩ (fun c14 => ?_) (fun c14 => ?_)
        · have hM := xif hM c14
          refine xj_iconst C dX9_makeBits_66 ?_
          obtain rfl := Option.some.inj hM
          refine xj_loc C [1, 2, 3, 0] (L1 := [(0, .ref (ad 24)), (1, .int (xi v1)), (2, .int (xi (S 14 v1))), (3, .int (xi r4))]) rfl ?_
          exact Kr12
        · have hM := xit hM c14
          refine xj_aload_n C 1 dX9_makeBits_57 rfl rfl ?_
          refine xj_get C (fun _ h => List.mem_cons_of_mem _ (List.mem_append_right _ h)) 24 (eY_24 ad k S) rfl 5 (by decide) (List.mem_of_getElem? (i := 3) rfl) (fun _ _ h => h) rfl dX9_makeBits_58 ?_
          refine xj_iload_n C 2 dX9_makeBits_61 rfl rfl ?_
          refine xj_iald C 5 S 5 (eY_5 ad k S) (Nat.le_of_ble_eq_true rfl) g3 dX9_makeBits_62 ?_
          refine xj_goto C (tgt := 67) dX9_makeBits_63 (by decide) ?_
          obtain rfl := Option.some.inj hM
          refine xj_loc C [1, 2, 3, 0] (L1 := [(0, .ref (ad 24)), (1, .int (xi v1)), (2, .int (xi (S 14 v1))), (3, .int (xi r4))]) rfl ?_
          exact Kr12
      clear hM
      have hM := hRr4
      obtain ⟨g5, hM⟩ := xck_some hM
      refine xj_if_lt C (tgt := 40) dX9_makeBits_16 (by decide) g5 (fun c6 => ?_) (fun c6 => ?_)
      · have hM := xit hM c6
        refine xj_iconst C dX9_makeBits_40 ?_
        obtain rfl := Option.some.inj hM
        refine xj_loc C [1, 2, 0] (L1 := [(0, .ref (ad 24)), (1, .int (xi v1)), (2, .int (xi (S 14 v1)))]) rfl ?_
        exact Kr4
      · have hM := xif hM c6
        refine xj_aload_n C 1 dX9_makeBits_19 rfl rfl ?_
        refine xj_get C (fun _ h => List.mem_cons_of_mem _ (List.mem_append_right _ h)) 24 (eY_24 ad k S) rfl 8 (by decide) (List.mem_of_getElem? (i := 2) rfl) (fun _ _ h => h) rfl dX9_makeBits_20 ?_
        refine xj_iload_n C 0 dX9_makeBits_23 rfl rfl ?_
        obtain ⟨r7, hRr7, hM⟩ := xbd hM
        have Kr7 : xJ l D k o X 4 32 [(0, .ref (ad 24)), (1, .int (xi v1)), (2, .int (xi (S 14 v1)))] [.int (xi r7), .ref (ad 7)] (wY ad k S) := by
          obtain ⟨g9, hM⟩ := xck_some hM
          refine xj_zald C 7 S 7 (eY_7 ad k S) (Nat.le_of_ble_eq_true rfl) g9 dX9_makeBits_32 ?_
          obtain ⟨g10, hM⟩ := xck_some hM
          refine xj_if_eq C (tgt := 40) dX9_makeBits_33 (by decide) g10 (fun c11 => ?_) (fun c11 => ?_)
          · have hM := xit hM c11
            refine xj_iconst C dX9_makeBits_40 ?_
            obtain rfl := Option.some.inj hM
            exact Kr4
          · have hM := xif hM c11
            refine xj_iconst C dX9_makeBits_36 ?_
            refine xj_goto C (tgt := 41) dX9_makeBits_37 (by decide) ?_
            obtain rfl := Option.some.inj hM
            exact Kr4
        clear hM
        have hM := hRr7
        refine xj_if_ge C (tgt := 31) dX9_makeBits_24 (by decide) g5 (fun c8 => ?_) (fun c8 => ?_)
        · have hM := xit hM c8
          refine xj_iload_n C 0 dX9_makeBits_31 rfl rfl ?_
          obtain rfl := Option.some.inj hM
          refine xj_loc C [1, 2, 0] (L1 := [(0, .ref (ad 24)), (1, .int (xi v1)), (2, .int (xi (S 14 v1)))]) rfl ?_
          exact Kr7
        · have hM := xif hM c8
          refine xj_iconst C dX9_makeBits_27 ?_
          refine xj_goto C (tgt := 32) dX9_makeBits_28 (by decide) ?_
          obtain rfl := Option.some.inj hM
          refine xj_loc C [1, 2, 0] (L1 := [(0, .ref (ad 24)), (1, .int (xi v1)), (2, .int (xi (S 14 v1)))]) rfl ?_
          exact Kr7
set_option maxRecDepth 100000 in
set_option maxHeartbeats 4000000 in
theorem j_X9_makeBits_L135 {l : Launch} {D : va_G} {k : Nat → ClassId} {ad : Nat → Nat} {o : xO} {X : xX} (C : xC D k o X cX9_makeBits 4 RX9 wsX9_makeBits none rmX9_makeBits) : ∀ (n : Nat) (v1 : Int) (S : xS) (r : xS), m_X9_makeBits_L135 n v1 S = some r → (xJ l D k o X 4 159 [(0, .ref (ad 24))] [] (wY ad k r)) → xJ l D k o X 4 135 [(0, .ref (ad 24)), (1, .int (xi v1))] [] (wY ad k S) := by
  intro n
  induction n with
  | zero =>
    intro v1 S r hM
    cases hM
  | succ n ih =>
    intro v1 S r hM K
    unfold m_X9_makeBits_L135 at hM
    refine xj_iload_n C 1 dX9_makeBits_135 rfl rfl ?_
    refine xj_bipush C (n := 48) (by decide) dX9_makeBits_136 ?_
    obtain ⟨g30, hM⟩ := xck_some hM
    refine xj_icmp_ge C (tgt := 159) dX9_makeBits_138 (by decide) ⟨g30, (by decide)⟩ (fun c31 => ?_) (fun c31 => ?_)
    · have hM := xit hM c31
      obtain rfl := Option.some.inj hM
      refine xj_loc C [0] (L1 := [(0, .ref (ad 24))]) rfl ?_
      exact K
    · have hM := xif hM c31
      refine xj_aload_n C 0 dX9_makeBits_141 rfl rfl ?_
      refine xj_get C (fun _ h => List.mem_cons_of_mem _ (List.mem_append_right _ h)) 24 (eY_24 ad k S) rfl 3 (by decide) (List.mem_of_getElem? (i := 9) rfl) (fun _ _ h => h) rfl dX9_makeBits_142 ?_
      refine xj_iload_n C 1 dX9_makeBits_145 rfl rfl ?_
      refine xj_aload_n C 0 dX9_makeBits_146 rfl rfl ?_
      refine xj_get C (fun _ h => List.mem_cons_of_mem _ (List.mem_append_right _ h)) 24 (eY_24 ad k S) rfl 22 (by decide) (List.mem_of_getElem? (i := 10) rfl) (fun _ _ h => h) rfl dX9_makeBits_147 ?_
      refine xj_iload_n C 1 dX9_makeBits_150 rfl rfl ?_
      obtain ⟨g32, hM⟩ := xck_some hM
      refine xj_iald C 19 S 19 (eY_19 ad k S) (Nat.le_of_ble_eq_true rfl) g32 dX9_makeBits_151 ?_
      refine xj_iast C 3 S 3 (eY_3 ad k S) (Nat.le_of_ble_eq_true rfl) g32 (sY_3 ad k S v1 (S 19 v1)) dX9_makeBits_152 ?_
      refine xj_iinc C 1 (L1 := [(1, .int (xi (v1 + 1))), (0, .ref (ad 24))]) dX9_makeBits_153 rfl (by decide) rfl ?_
      refine xj_goto C (tgt := 135) dX9_makeBits_156 (by decide) ?_
      refine xj_loc C [1, 0] (L1 := [(0, .ref (ad 24)), (1, .int (xi (v1 + 1)))]) rfl ?_
      exact ih _ _ _ hM K
set_option maxRecDepth 100000 in
set_option maxHeartbeats 4000000 in
theorem j_X9_makeBits_L161 {l : Launch} {D : va_G} {k : Nat → ClassId} {ad : Nat → Nat} {o : xO} {X : xX} (C : xC D k o X cX9_makeBits 4 RX9 wsX9_makeBits none rmX9_makeBits) : ∀ (n : Nat) (v1 : Int) (S : xS) (r : xS), m_X9_makeBits_L161 n v1 S = some r → (xJ l D k o X 4 186 [(0, .ref (ad 24))] [] (wY ad k r)) → xJ l D k o X 4 161 [(0, .ref (ad 24)), (1, .int (xi v1))] [] (wY ad k S) := by
  intro n
  induction n with
  | zero =>
    intro v1 S r hM
    cases hM
  | succ n ih =>
    intro v1 S r hM K
    unfold m_X9_makeBits_L161 at hM
    refine xj_iload_n C 1 dX9_makeBits_161 rfl rfl ?_
    refine xj_sipush C (n := 128) (by decide) dX9_makeBits_162 ?_
    obtain ⟨g34, hM⟩ := xck_some hM
    refine xj_icmp_ge C (tgt := 186) dX9_makeBits_165 (by decide) ⟨g34, (by decide)⟩ (fun c35 => ?_) (fun c35 => ?_)
    · have hM := xit hM c35
      obtain rfl := Option.some.inj hM
      refine xj_loc C [0] (L1 := [(0, .ref (ad 24))]) rfl ?_
      exact K
    · have hM := xif hM c35
      refine xj_aload_n C 0 dX9_makeBits_168 rfl rfl ?_
      refine xj_get C (fun _ h => List.mem_cons_of_mem _ (List.mem_append_right _ h)) 24 (eY_24 ad k S) rfl 4 (by decide) (List.mem_of_getElem? (i := 11) rfl) (fun _ _ h => h) rfl dX9_makeBits_169 ?_
      refine xj_iload_n C 1 dX9_makeBits_172 rfl rfl ?_
      refine xj_aload_n C 0 dX9_makeBits_173 rfl rfl ?_
      refine xj_get C (fun _ h => List.mem_cons_of_mem _ (List.mem_append_right _ h)) 24 (eY_24 ad k S) rfl 23 (by decide) (List.mem_of_getElem? (i := 12) rfl) (fun _ _ h => h) rfl dX9_makeBits_174 ?_
      refine xj_iload_n C 1 dX9_makeBits_177 rfl rfl ?_
      obtain ⟨g36, hM⟩ := xck_some hM
      refine xj_iald C 20 S 20 (eY_20 ad k S) (Nat.le_of_ble_eq_true rfl) g36 dX9_makeBits_178 ?_
      refine xj_iast C 4 S 4 (eY_4 ad k S) (Nat.le_of_ble_eq_true rfl) g36 (sY_4 ad k S v1 (S 20 v1)) dX9_makeBits_179 ?_
      refine xj_iinc C 1 (L1 := [(1, .int (xi (v1 + 1))), (0, .ref (ad 24))]) dX9_makeBits_180 rfl (by decide) rfl ?_
      refine xj_goto C (tgt := 161) dX9_makeBits_183 (by decide) ?_
      refine xj_loc C [1, 0] (L1 := [(0, .ref (ad 24)), (1, .int (xi (v1 + 1)))]) rfl ?_
      exact ih _ _ _ hM K
set_option maxRecDepth 100000 in
set_option maxHeartbeats 4000000 in
theorem j_X9_makeBits_L204 {l : Launch} {D : va_G} {k : Nat → ClassId} {ad : Nat → Nat} {o : xO} {X : xX} (C : xC D k o X cX9_makeBits 4 RX9 wsX9_makeBits none rmX9_makeBits) : ∀ (n : Nat) (v1 : Int) (S : xS) (r : xS), m_X9_makeBits_L204 n v1 S = some r → (xJ l D k o X 4 230 [] [] (wY ad k r)) → xJ l D k o X 4 204 [(0, .ref (ad 24)), (1, .int (xi v1))] [] (wY ad k S) := by
  intro n
  induction n with
  | zero =>
    intro v1 S r hM
    cases hM
  | succ n ih =>
    intro v1 S r hM K
    unfold m_X9_makeBits_L204 at hM
    refine xj_iload_n C 1 dX9_makeBits_204 rfl rfl ?_
    refine xj_aload_n C 0 dX9_makeBits_205 rfl rfl ?_
    refine xj_get C (v := .int (xi (S 50 0))) (fun _ h => List.mem_cons_of_mem _ (List.mem_append_right _ h)) 24 (eY_24 ad k S) rfl 6 (by decide) (List.mem_of_getElem? (i := 13) rfl) (fun _ _ h => h) rfl dX9_makeBits_206 ?_
    obtain ⟨g39, hM⟩ := xck_some hM
    refine xj_icmp_ge C (tgt := 230) dX9_makeBits_209 (by decide) ⟨g39.1, g39.2⟩ (fun c40 => ?_) (fun c40 => ?_)
    · have hM := xit hM c40
      obtain rfl := Option.some.inj hM
      refine xj_loc C [] (L1 := []) rfl ?_
      exact K
    · have hM := xif hM c40
      refine xj_aload_n C 0 dX9_makeBits_212 rfl rfl ?_
      refine xj_get C (fun _ h => List.mem_cons_of_mem _ (List.mem_append_right _ h)) 24 (eY_24 ad k S) rfl 15 (by decide) (List.mem_of_getElem? (i := 16) rfl) (fun _ _ h => h) rfl dX9_makeBits_213 ?_
      refine xj_iload_n C 1 dX9_makeBits_216 rfl rfl ?_
      refine xj_aload_n C 0 dX9_makeBits_217 rfl rfl ?_
      refine xj_get C (fun _ h => List.mem_cons_of_mem _ (List.mem_append_right _ h)) 24 (eY_24 ad k S) rfl 16 (by decide) (List.mem_of_getElem? (i := 17) rfl) (fun _ _ h => h) rfl dX9_makeBits_218 ?_
      refine xj_iload_n C 1 dX9_makeBits_221 rfl rfl ?_
      obtain ⟨g41, hM⟩ := xck_some hM
      refine xj_iald C 13 S 13 (eY_13 ad k S) (Nat.le_of_ble_eq_true rfl) g41 dX9_makeBits_222 ?_
      refine xj_iast C 12 S 12 (eY_12 ad k S) (Nat.le_of_ble_eq_true rfl) g41 (sY_12 ad k S v1 (S 13 v1)) dX9_makeBits_223 ?_
      refine xj_iinc C 1 (L1 := [(1, .int (xi (v1 + 1))), (0, .ref (ad 24))]) dX9_makeBits_224 rfl (by decide) rfl ?_
      refine xj_goto C (tgt := 204) dX9_makeBits_227 (by decide) ?_
      refine xj_loc C [1, 0] (L1 := [(0, .ref (ad 24)), (1, .int (xi (v1 + 1)))]) rfl ?_
      exact ih _ _ _ hM K
set_option maxRecDepth 100000 in
set_option maxHeartbeats 4000000 in
theorem c_X9_makeBits {l : Launch} {D : va_G} {k : Nat → ClassId} {ad : Nat → Nat} {S : xS} {res : xS} (hM : m_X9_makeBits S = some res) : xM l yX9_makeBits wsX9_makeBits rmX9_makeBits D k [.ref (ad 24)] (wY ad k S) none (wY ad k res) := by
  refine xM_of (ret := none) (by decide) rfl (Nat.le_of_ble_eq_true rfl) (fun X C => ?_)
  have C : xC D k (xo X D k none (wY ad k res)) X cX9_makeBits 4 RX9 wsX9_makeBits none rmX9_makeBits := C
  show xJ l D k (xo X D k none (wY ad k res)) X 4 0 [(0, .ref (ad 24))] [] (wY ad k S)
  unfold m_X9_makeBits at hM
  refine xj_iconst C dX9_makeBits_0 ?_
  refine xj_istore_n C (L1 := [(1, .int (xi 0)), (0, .ref (ad 24))]) dX9_makeBits_1 rfl (by decide) rfl ?_
  obtain ⟨r29, hLr29, hM⟩ := xbd hM
  refine xj_loc C [1, 0] (L1 := [(0, .ref (ad 24)), (1, .int (xi 0))]) rfl ?_
  refine j_X9_makeBits_L2 C _ _ _ _ hLr29 ?_
  refine xj_iconst C dX9_makeBits_133 ?_
  refine xj_istore_n C (L1 := [(1, .int (xi 0)), (0, .ref (ad 24))]) dX9_makeBits_134 rfl (by decide) rfl ?_
  obtain ⟨r33, hLr33, hM⟩ := xbd hM
  refine xj_loc C [1, 0] (L1 := [(0, .ref (ad 24)), (1, .int (xi 0))]) rfl ?_
  refine j_X9_makeBits_L135 C _ _ _ _ hLr33 ?_
  refine xj_iconst C dX9_makeBits_159 ?_
  refine xj_istore_n C (L1 := [(1, .int (xi 0)), (0, .ref (ad 24))]) dX9_makeBits_160 rfl (by decide) rfl ?_
  obtain ⟨r37, hLr37, hM⟩ := xbd hM
  refine xj_loc C [1, 0] (L1 := [(0, .ref (ad 24)), (1, .int (xi 0))]) rfl ?_
  refine j_X9_makeBits_L161 C _ _ _ _ hLr37 ?_
  refine xj_aload_n C 0 dX9_makeBits_186 rfl rfl ?_
  refine xj_aload_n C 0 dX9_makeBits_187 rfl rfl ?_
  refine xj_get C (v := .int (xi (r37 50 0))) (fun _ h => List.mem_cons_of_mem _ (List.mem_append_right _ h)) 24 (eY_24 ad k r37) rfl 6 (by decide) (List.mem_of_getElem? (i := 13) rfl) (fun _ _ h => h) rfl dX9_makeBits_188 ?_
  refine xj_put C (fun _ h => List.mem_cons_of_mem _ (List.mem_append_right _ h)) tyX9 tyX9_ok nmX9 24 (eY_24 ad k r37) rfl 13 (by decide) (List.mem_of_getElem? (i := 14) rfl) (fun _ _ h => h) rfl (tyX9_ok 13 (by decide)) (Nat.le_of_ble_eq_true rfl) (sY_51 ad k r37 (r37 50 0)) dX9_makeBits_191 ?_
  refine xj_aload_n C 0 dX9_makeBits_194 rfl rfl ?_
  refine xj_aload_n C 0 dX9_makeBits_195 rfl rfl ?_
  obtain ⟨r38, hRr38, hM⟩ := xbd hM
  refine xj_callV C [] [.ref (ad 24)] 0 (c_X9_placeCost hRr38) gX9_makeBits_X9_placeCost rfl ⟨rfl, rfl⟩ hv_X9_placeCost ⟨Nat.le_of_ble_eq_true rfl, Nat.le_of_ble_eq_true rfl⟩ 24 (eY_24 ad k _) rfl rfl (Nat.le_of_ble_eq_true rfl) dX9_makeBits_196 ?_
  refine xj_put C (fun _ h => List.mem_cons_of_mem _ (List.mem_append_right _ h)) tyX9 tyX9_ok nmX9 24 (eY_24 ad k (xup r37 51 0 (r37 50 0))) rfl 14 (by decide) (List.mem_of_getElem? (i := 15) rfl) (fun _ _ h => h) rfl (tyX9_ok 14 (by decide)) (Nat.le_of_ble_eq_true rfl) (sY_52 ad k (xup r37 51 0 (r37 50 0)) r38) dX9_makeBits_199 ?_
  refine xj_iconst C dX9_makeBits_202 ?_
  refine xj_istore_n C (L1 := [(1, .int (xi 0)), (0, .ref (ad 24))]) dX9_makeBits_203 rfl (by decide) rfl ?_
  obtain ⟨r42, hLr42, hM⟩ := xbd hM
  refine xj_loc C [1, 0] (L1 := [(0, .ref (ad 24)), (1, .int (xi 0))]) rfl ?_
  refine j_X9_makeBits_L204 C _ _ _ _ hLr42 ?_
  obtain rfl := Option.some.inj hM
  exact xj_vret C rfl dX9_makeBits_230
def rmX9_build : Room := { frames := 8, cells := 0, slots := 0, locals := 191 }
theorem hv_X9_build : yX9_build.cls = RX9 ∧ yX9_build.cls ≠ "java/lang/invoke/MethodHandle" ∧ yX9_build.cls ≠ "java/lang/invoke/VarHandle" ∧ (parseMethodDescriptor yX9_build.desc).map (fun d => d.parameters.length) = some 0 := by decide +kernel
def m_X9_build_L25 : Nat → Int → xS → Option (xS)
  | 0, _, _ => none
  | n + 1, v1, S => xck (xr v1) (if 148 ≤ v1 then some S else xck (0 ≤ v1 ∧ v1 < 148) (m_X9_build_L25 n (v1 + 1) (xup S 16 v1 0)))
def m_X9_build_L47 : Nat → Int → xS → Option ((xS) ⊕ (Int × xS))
  | 0, _, _ => none
  | n + 1, v1, S => xck (xr v1) (if 12 < v1 then some (.inl S) else (m_X9_round S).bind (fun r13 => xck (xr r13.1) (if r13.1 = (-3) then some (.inr ((-3), r13.2)) else (if r13.1 = 1 then (m_X9_makeBits r13.2).bind (fun r17 => some (.inr (v1, r17))) else m_X9_build_L47 n (v1 + 1) r13.2))))
def m_X9_build (S : xS) : Option (Int × xS) := xck (xr (S 50 0)) (if (S 50 0) = 0 then some ((-1), S) else (m_X9_ring S).bind (fun r3 => xck (xr r3.1) (if r3.1 = 0 then (m_X9_place r3.2).bind (fun r6 => (m_X9_build_L25 2000 0 r6).bind (fun r10 => (m_X9_build_L47 2000 1 r10).bind (fun r18 => match r18 with | .inl t19 => some ((-3), t19) | .inr y20 => some y20))) else some ((-2), r3.2))))
set_option maxRecDepth 100000 in
set_option maxHeartbeats 4000000 in
theorem j_X9_build_L25 {l : Launch} {D : va_G} {k : Nat → ClassId} {ad : Nat → Nat} {o : xO} {X : xX} (C : xC D k o X cX9_build 3 RX9 wsX9_build (some .int) rmX9_build) : ∀ (n : Nat) (v1 : Int) (S : xS) (r : xS), m_X9_build_L25 n v1 S = some r → (xJ l D k o X 3 45 [(0, .ref (ad 24))] [] (wY ad k r)) → xJ l D k o X 3 25 [(0, .ref (ad 24)), (1, .int (xi v1))] [] (wY ad k S) := by
  intro n
  induction n with
  | zero =>
    intro v1 S r hM
    cases hM
  | succ n ih =>
    intro v1 S r hM K
    unfold m_X9_build_L25 at hM
    refine xj_iload_n C 1 dX9_build_25 rfl rfl ?_
    refine xj_sipush C (n := 148) (by decide) dX9_build_26 ?_
    obtain ⟨g7, hM⟩ := xck_some hM
    refine xj_icmp_ge C (tgt := 45) dX9_build_29 (by decide) ⟨g7, (by decide)⟩ (fun c8 => ?_) (fun c8 => ?_)
    · have hM := xit hM c8
      obtain rfl := Option.some.inj hM
      refine xj_loc C [0] (L1 := [(0, .ref (ad 24))]) rfl ?_
      exact K
    · have hM := xif hM c8
      refine xj_aload_n C 0 dX9_build_32 rfl rfl ?_
      refine xj_get C (fun _ h => List.mem_cons_of_mem _ (List.mem_append_right _ h)) 24 (eY_24 ad k S) rfl 19 (by decide) (List.mem_of_getElem? (i := 2) rfl) (fun _ _ h => h) rfl dX9_build_33 ?_
      refine xj_iload_n C 1 dX9_build_36 rfl rfl ?_
      refine xj_iconst C dX9_build_37 ?_
      obtain ⟨g9, hM⟩ := xck_some hM
      refine xj_iast C 16 S 16 (eY_16 ad k S) (Nat.le_of_ble_eq_true rfl) g9 (sY_16 ad k S v1 0) dX9_build_38 ?_
      refine xj_iinc C 1 (L1 := [(1, .int (xi (v1 + 1))), (0, .ref (ad 24))]) dX9_build_39 rfl (by decide) rfl ?_
      refine xj_goto C (tgt := 25) dX9_build_42 (by decide) ?_
      refine xj_loc C [1, 0] (L1 := [(0, .ref (ad 24)), (1, .int (xi (v1 + 1)))]) rfl ?_
      exact ih _ _ _ hM K
set_option maxRecDepth 100000 in
set_option maxHeartbeats 4000000 in
theorem j_X9_build_L47 {l : Launch} {D : va_G} {k : Nat → ClassId} {ad : Nat → Nat} {o : xO} {X : xX} (C : xC D k o X cX9_build 3 RX9 wsX9_build (some .int) rmX9_build) : ∀ (n : Nat) (v1 : Int) (S : xS) (r : (xS) ⊕ (Int × xS)), m_X9_build_L47 n v1 S = some r → (∀ t, r = .inl t → xJ l D k o X 3 84 [] [] (wY ad k t)) → (∀ x, r = .inr x → o = (xo X D k (some (.int (xi x.1))) (wY ad k x.2))) → xJ l D k o X 3 47 [(0, .ref (ad 24)), (1, .int (xi v1))] [] (wY ad k S) := by
  intro n
  induction n with
  | zero =>
    intro v1 S r hM
    cases hM
  | succ n ih =>
    intro v1 S r hM K K2
    unfold m_X9_build_L47 at hM
    refine xj_iload_n C 1 dX9_build_47 rfl rfl ?_
    refine xj_bipush C (n := 12) (by decide) dX9_build_48 ?_
    obtain ⟨g11, hM⟩ := xck_some hM
    refine xj_icmp_gt C (tgt := 84) dX9_build_50 (by decide) ⟨g11, (by decide)⟩ (fun c12 => ?_) (fun c12 => ?_)
    · have hM := xit hM c12
      obtain rfl := Option.some.inj hM
      refine xj_loc C [] (L1 := []) rfl ?_
      exact K _ rfl
    · have hM := xif hM c12
      refine xj_aload_n C 0 dX9_build_53 rfl rfl ?_
      obtain ⟨r13, hRr13, hM⟩ := xbd hM
      refine xj_callV C [] [] 0 (c_X9_round hRr13) gX9_build_X9_round rfl ⟨rfl, rfl⟩ hv_X9_round ⟨Nat.le_of_ble_eq_true rfl, Nat.le_of_ble_eq_true rfl⟩ 24 (eY_24 ad k _) rfl rfl (Nat.le_of_ble_eq_true rfl) dX9_build_54 ?_
      refine xj_istore_n C (L1 := [(2, .int (xi r13.1)), (0, .ref (ad 24)), (1, .int (xi v1))]) dX9_build_57 rfl (by decide) rfl ?_
      refine xj_iload_n C 0 dX9_build_58 rfl rfl ?_
      refine xj_bipush C (n := (-3)) (by decide) dX9_build_59 ?_
      obtain ⟨g14, hM⟩ := xck_some hM
      refine xj_icmp_ne C (tgt := 67) dX9_build_61 (by decide) ⟨g14, (by decide)⟩ (fun c15 => ?_) (fun c15 => ?_)
      · have hM := xif hM c15
        refine xj_iload_n C 0 dX9_build_67 rfl rfl ?_
        refine xj_iconst C dX9_build_68 ?_
        refine xj_icmp_ne C (tgt := 78) dX9_build_69 (by decide) ⟨g14, (by decide)⟩ (fun c16 => ?_) (fun c16 => ?_)
        · have hM := xif hM c16
          refine xj_iinc C 2 (L1 := [(1, .int (xi (v1 + 1))), (2, .int (xi r13.1)), (0, .ref (ad 24))]) dX9_build_78 rfl (by decide) rfl ?_
          refine xj_goto C (tgt := 47) dX9_build_81 (by decide) ?_
          refine xj_loc C [2, 0] (L1 := [(0, .ref (ad 24)), (1, .int (xi (v1 + 1)))]) rfl ?_
          exact ih _ _ _ hM K K2
        · have hM := xit hM c16
          refine xj_aload_n C 1 dX9_build_72 rfl rfl ?_
          obtain ⟨r17, hRr17, hM⟩ := xbd hM
          refine xj_callV C [] [] 0 (c_X9_makeBits hRr17) gX9_build_X9_makeBits rfl ⟨rfl, rfl⟩ hv_X9_makeBits ⟨Nat.le_of_ble_eq_true rfl, Nat.le_of_ble_eq_true rfl⟩ 24 (eY_24 ad k _) rfl rfl (Nat.le_of_ble_eq_true rfl) dX9_build_73 ?_
          refine xj_iload_n C 2 dX9_build_76 rfl rfl ?_
          obtain rfl := Option.some.inj hM
          obtain rfl := K2 _ rfl
          exact xj_iret C rfl dX9_build_77
      · have hM := xit hM c15
        refine xj_bipush C (n := (-3)) (by decide) dX9_build_64 ?_
        obtain rfl := Option.some.inj hM
        obtain rfl := K2 _ rfl
        exact xj_iret C rfl dX9_build_66
set_option maxRecDepth 100000 in
set_option maxHeartbeats 4000000 in
theorem c_X9_build {l : Launch} {D : va_G} {k : Nat → ClassId} {ad : Nat → Nat} {S : xS} {res : Int × xS} (hM : m_X9_build S = some res) : xM l yX9_build wsX9_build rmX9_build D k [.ref (ad 24)] (wY ad k S) (some (.int (xi res.1))) (wY ad k res.2) := by
  refine xM_of (ret := (some .int)) (by decide) rfl (Nat.le_of_ble_eq_true rfl) (fun X C => ?_)
  have C : xC D k (xo X D k (some (.int (xi res.1))) (wY ad k res.2)) X cX9_build 3 RX9 wsX9_build (some .int) rmX9_build := C
  show xJ l D k (xo X D k (some (.int (xi res.1))) (wY ad k res.2)) X 3 0 [(0, .ref (ad 24))] [] (wY ad k S)
  unfold m_X9_build at hM
  refine xj_aload_n C 0 dX9_build_0 rfl rfl ?_
  refine xj_get C (v := .int (xi (S 50 0))) (fun _ h => List.mem_cons_of_mem _ (List.mem_append_right _ h)) 24 (eY_24 ad k S) rfl 6 (by decide) (List.mem_of_getElem? (i := 1) rfl) (fun _ _ h => h) rfl dX9_build_1 ?_
  obtain ⟨g1, hM⟩ := xck_some hM
  refine xj_if_ne C (tgt := 9) dX9_build_4 (by decide) g1 (fun c2 => ?_) (fun c2 => ?_)
  · have hM := xif hM c2
    refine xj_aload_n C 0 dX9_build_9 rfl rfl ?_
    obtain ⟨r3, hRr3, hM⟩ := xbd hM
    refine xj_callV C [] [] 0 (c_X9_ring hRr3) gX9_build_X9_ring rfl ⟨rfl, rfl⟩ hv_X9_ring ⟨Nat.le_of_ble_eq_true rfl, Nat.le_of_ble_eq_true rfl⟩ 24 (eY_24 ad k _) rfl rfl (Nat.le_of_ble_eq_true rfl) dX9_build_10 ?_
    obtain ⟨g4, hM⟩ := xck_some hM
    refine xj_if_eq C (tgt := 19) dX9_build_13 (by decide) g4 (fun c5 => ?_) (fun c5 => ?_)
    · have hM := xit hM c5
      refine xj_aload_n C 0 dX9_build_19 rfl rfl ?_
      obtain ⟨r6, hRr6, hM⟩ := xbd hM
      refine xj_callV C [] [] 0 (c_X9_place hRr6) gX9_build_X9_place rfl ⟨rfl, rfl⟩ hv_X9_place ⟨Nat.le_of_ble_eq_true rfl, Nat.le_of_ble_eq_true rfl⟩ 24 (eY_24 ad k _) rfl rfl (Nat.le_of_ble_eq_true rfl) dX9_build_20 ?_
      refine xj_iconst C dX9_build_23 ?_
      refine xj_istore_n C (L1 := [(1, .int (xi 0)), (0, .ref (ad 24))]) dX9_build_24 rfl (by decide) rfl ?_
      obtain ⟨r10, hLr10, hM⟩ := xbd hM
      refine xj_loc C [1, 0] (L1 := [(0, .ref (ad 24)), (1, .int (xi 0))]) rfl ?_
      refine j_X9_build_L25 C _ _ _ _ hLr10 ?_
      refine xj_iconst C dX9_build_45 ?_
      refine xj_istore_n C (L1 := [(1, .int (xi 1)), (0, .ref (ad 24))]) dX9_build_46 rfl (by decide) rfl ?_
      obtain ⟨r18, hLr18, hM⟩ := xbd hM
      refine xj_loc C [1, 0] (L1 := [(0, .ref (ad 24)), (1, .int (xi 1))]) rfl ?_
      rcases r18 with t19 | y20
      · refine j_X9_build_L47 C _ _ _ _ hLr18 (fun tz ez => ?_) (fun tz ez => by cases ez)
        obtain rfl := Sum.inl.inj ez
        try dsimp only at hM
        refine xj_bipush C (n := (-3)) (by decide) dX9_build_84 ?_
        obtain rfl := Option.some.inj hM
        exact xj_iret C rfl dX9_build_86
      · refine j_X9_build_L47 C _ _ _ _ hLr18 (fun tz ez => by cases ez) (fun tz ez => ?_)
        obtain rfl := Sum.inr.inj ez
        try dsimp only at hM
        obtain rfl := Option.some.inj hM
        rfl
    · have hM := xif hM c5
      refine xj_bipush C (n := (-2)) (by decide) dX9_build_16 ?_
      obtain rfl := Option.some.inj hM
      exact xj_iret C rfl dX9_build_18
  · have hM := xit hM c2
    refine xj_iconst C dX9_build_7 ?_
    obtain rfl := Option.some.inj hM
    exact xj_iret C rfl dX9_build_8
def rmX9_tileOf : Room := { frames := 1, cells := 0, slots := 0, locals := 22 }
theorem hv_X9_tileOf : yX9_tileOf.cls = RX9 ∧ yX9_tileOf.cls ≠ "java/lang/invoke/MethodHandle" ∧ yX9_tileOf.cls ≠ "java/lang/invoke/VarHandle" ∧ (parseMethodDescriptor yX9_tileOf.desc).map (fun d => d.parameters.length) = some 1 := by decide +kernel
def m_X9_tileOf (p1 : Int) (S : xS) : Option (Int) := (m_X9_in p1 0 ((S 51 0) - 1)).bind (fun r1 => xck (xr r1) (if r1 = 0 then some (-1) else xck (0 ≤ p1 ∧ p1 < 10) (some (S 12 p1))))
set_option maxRecDepth 100000 in
set_option maxHeartbeats 4000000 in
theorem c_X9_tileOf {l : Launch} {D : va_G} {k : Nat → ClassId} {ad : Nat → Nat} {S : xS} {p1 : Int} {res : Int} (hM : m_X9_tileOf p1 S = some res) : xM l yX9_tileOf wsX9_tileOf rmX9_tileOf D k [.ref (ad 24), .int (xi p1)] (wY ad k S) (some (.int (xi res))) (wY ad k S) := by
  refine xM_of (ret := (some .int)) (by decide) rfl (Nat.le_of_ble_eq_true rfl) (fun X C => ?_)
  have C : xC D k (xo X D k (some (.int (xi res))) (wY ad k S)) X cX9_tileOf 2 RX9 wsX9_tileOf (some .int) rmX9_tileOf := C
  show xJ l D k (xo X D k (some (.int (xi res))) (wY ad k S)) X 2 0 [(0, .ref (ad 24)), (1, .int (xi p1))] [] (wY ad k S)
  unfold m_X9_tileOf at hM
  refine xj_iload_n C 1 dX9_tileOf_0 rfl rfl ?_
  refine xj_iconst C dX9_tileOf_1 ?_
  refine xj_aload_n C 0 dX9_tileOf_2 rfl rfl ?_
  refine xj_get C (v := .int (xi (S 51 0))) (fun _ h => List.mem_cons_of_mem _ (List.mem_append_right _ h)) 24 (eY_24 ad k S) rfl 13 (by decide) (List.mem_of_getElem? (i := 1) rfl) (fun _ _ h => h) rfl dX9_tileOf_3 ?_
  refine xj_iconst C dX9_tileOf_6 ?_
  refine xj_isub C dX9_tileOf_7 ?_
  obtain ⟨r1, hRr1, hM⟩ := xbd hM
  refine xj_callS C [.int (xi p1), .int (xi 0), .int (xi ((S 51 0) - 1))] [] 3 (c_X9_in hRr1) gX9_tileOf_X9_in rfl ⟨rfl, rfl⟩ hv_X9_in ⟨Nat.le_of_ble_eq_true rfl, Nat.le_of_ble_eq_true rfl⟩ rfl (Nat.le_of_ble_eq_true rfl) dX9_tileOf_8 ?_
  obtain ⟨g2, hM⟩ := xck_some hM
  refine xj_if_eq C (tgt := 23) dX9_tileOf_11 (by decide) g2 (fun c3 => ?_) (fun c3 => ?_)
  · have hM := xit hM c3
    refine xj_iconst C dX9_tileOf_23 ?_
    obtain rfl := Option.some.inj hM
    exact xj_iret C rfl dX9_tileOf_24
  · have hM := xif hM c3
    refine xj_aload_n C 0 dX9_tileOf_14 rfl rfl ?_
    refine xj_get C (fun _ h => List.mem_cons_of_mem _ (List.mem_append_right _ h)) 24 (eY_24 ad k S) rfl 15 (by decide) (List.mem_of_getElem? (i := 2) rfl) (fun _ _ h => h) rfl dX9_tileOf_15 ?_
    refine xj_iload_n C 1 dX9_tileOf_18 rfl rfl ?_
    obtain ⟨g4, hM⟩ := xck_some hM
    refine xj_iald C 12 S 12 (eY_12 ad k S) (Nat.le_of_ble_eq_true rfl) g4 dX9_tileOf_19 ?_
    refine xj_goto C (tgt := 24) dX9_tileOf_20 (by decide) ?_
    obtain rfl := Option.some.inj hM
    exact xj_iret C rfl dX9_tileOf_24
def rmX9_cost : Room := { frames := 0, cells := 0, slots := 0, locals := 0 }
theorem hv_X9_cost : yX9_cost.cls = RX9 ∧ yX9_cost.cls ≠ "java/lang/invoke/MethodHandle" ∧ yX9_cost.cls ≠ "java/lang/invoke/VarHandle" ∧ (parseMethodDescriptor yX9_cost.desc).map (fun d => d.parameters.length) = some 0 := by decide +kernel
def m_X9_cost (S : xS) : Option (Int) := some (S 52 0)
set_option maxRecDepth 100000 in
set_option maxHeartbeats 4000000 in
theorem c_X9_cost {l : Launch} {D : va_G} {k : Nat → ClassId} {ad : Nat → Nat} {S : xS} {res : Int} (hM : m_X9_cost S = some res) : xM l yX9_cost wsX9_cost rmX9_cost D k [.ref (ad 24)] (wY ad k S) (some (.int (xi res))) (wY ad k S) := by
  refine xM_of (ret := (some .int)) (by decide) rfl (Nat.le_of_ble_eq_true rfl) (fun X C => ?_)
  have C : xC D k (xo X D k (some (.int (xi res))) (wY ad k S)) X cX9_cost 1 RX9 wsX9_cost (some .int) rmX9_cost := C
  show xJ l D k (xo X D k (some (.int (xi res))) (wY ad k S)) X 1 0 [(0, .ref (ad 24))] [] (wY ad k S)
  unfold m_X9_cost at hM
  refine xj_aload_n C 0 dX9_cost_0 rfl rfl ?_
  refine xj_get C (v := .int (xi (S 52 0))) (fun _ h => List.mem_cons_of_mem _ (List.mem_append_right _ h)) 24 (eY_24 ad k S) rfl 14 (by decide) (List.mem_of_getElem? (i := 1) rfl) (fun _ _ h => h) rfl dX9_cost_1 ?_
  obtain rfl := Option.some.inj hM
  exact xj_iret C rfl dX9_cost_4
def rmX9_bits : Room := { frames := 1, cells := 0, slots := 0, locals := 22 }
theorem hv_X9_bits : yX9_bits.cls = RX9 ∧ yX9_bits.cls ≠ "java/lang/invoke/MethodHandle" ∧ yX9_bits.cls ≠ "java/lang/invoke/VarHandle" ∧ (parseMethodDescriptor yX9_bits.desc).map (fun d => d.parameters.length) = some 1 := by decide +kernel
def m_X9_bits_L61 (p1 : Int) (S : xS) : Nat → Int64 → Int → Option (Int64)
  | 0, _, _ => none
  | n + 1, v2, v4 => xck (xr v4) (if 3 ≤ v4 then some v2 else xck (0 ≤ ((3 * p1) + v4) ∧ ((3 * p1) + v4) < 48) (m_X9_bits_L61 p1 S n (v2 + (((xi (S 3 ((3 * p1) + v4))).toInt64) <<< ((xi (10 + (4 * v4))).toInt64 &&& 63))) (v4 + 1)))
def m_X9_bits_L99 (p1 : Int) (S : xS) : Nat → Int64 → Int → Option (Int64)
  | 0, _, _ => none
  | n + 1, v2, v4 => xck (xr v4) (if 8 ≤ v4 then some v2 else xck (0 ≤ ((8 * p1) + v4) ∧ ((8 * p1) + v4) < 128) (m_X9_bits_L99 p1 S n (v2 + (((xi (S 4 ((8 * p1) + v4))).toInt64) <<< ((xi (22 + (3 * v4))).toInt64 &&& 63))) (v4 + 1)))
def m_X9_bits (p1 : Int) (S : xS) : Option (Int64) := (m_X9_in p1 0 15).bind (fun r1 => xck (xr r1) (if r1 = 0 then some (0 : Int64) else xck (0 ≤ p1 ∧ p1 < 16) ((xck (xr (S 1 p1)) (if (S 1 p1) = 0 then some (0 : Int64) else some (256 : Int64))).bind (fun r5 => (xck (xr (S 2 p1)) (if (S 2 p1) = 0 then some (0 : Int64) else some (512 : Int64))).bind (fun r8 => (m_X9_bits_L61 p1 S 2000 ((((xi (S 0 p1)).toInt64) + r5) + r8) 0).bind (fun r14 => (m_X9_bits_L99 p1 S 2000 r14 0).bind (fun r18 => some r18)))))))
set_option maxRecDepth 100000 in
set_option maxHeartbeats 4000000 in
theorem j_X9_bits_L61 {l : Launch} {D : va_G} {k : Nat → ClassId} {ad : Nat → Nat} {o : xO} {X : xX} (C : xC D k o X cX9_bits 5 RX9 wsX9_bits (some .long) rmX9_bits) (p1 : Int) (S : xS) : ∀ (n : Nat) (v2 : Int64) (v4 : Int) (r : Int64), m_X9_bits_L61 p1 S n v2 v4 = some r → (xJ l D k o X 5 96 [(0, .ref (ad 24)), (1, .int (xi p1)), (2, .long r)] [] (wY ad k S)) → xJ l D k o X 5 61 [(0, .ref (ad 24)), (1, .int (xi p1)), (2, .long v2), (4, .int (xi v4))] [] (wY ad k S) := by
  intro n
  induction n with
  | zero =>
    intro v2 v4 r hM
    cases hM
  | succ n ih =>
    intro v2 v4 r hM K
    unfold m_X9_bits_L61 at hM
    refine xj_iload C 3 dX9_bits_61 rfl ?_
    refine xj_iconst C dX9_bits_63 ?_
    obtain ⟨g11, hM⟩ := xck_some hM
    refine xj_icmp_ge C (tgt := 96) dX9_bits_64 (by decide) ⟨g11, (by decide)⟩ (fun c12 => ?_) (fun c12 => ?_)
    · have hM := xit hM c12
      obtain rfl := Option.some.inj hM
      refine xj_loc C [0, 1, 2] (L1 := [(0, .ref (ad 24)), (1, .int (xi p1)), (2, .long v2)]) rfl ?_
      exact K
    · have hM := xif hM c12
      refine xj_lload_n C 2 dX9_bits_67 rfl rfl ?_
      refine xj_aload_n C 0 dX9_bits_68 rfl rfl ?_
      refine xj_get C (fun _ h => List.mem_cons_of_mem _ (List.mem_append_right _ h)) 24 (eY_24 ad k S) rfl 3 (by decide) (List.mem_of_getElem? (i := 6) rfl) (fun _ _ h => h) rfl dX9_bits_69 ?_
      refine xj_iconst C dX9_bits_72 ?_
      refine xj_iload_n C 1 dX9_bits_73 rfl rfl ?_
      refine xj_imul C dX9_bits_74 ?_
      refine xj_iload C 3 dX9_bits_75 rfl ?_
      refine xj_iadd C dX9_bits_77 ?_
      obtain ⟨g13, hM⟩ := xck_some hM
      refine xj_iald C 3 S 3 (eY_3 ad k S) (Nat.le_of_ble_eq_true rfl) g13 dX9_bits_78 ?_
      refine xj_i2l C dX9_bits_79 ?_
      refine xj_bipush C (n := 10) (by decide) dX9_bits_80 ?_
      refine xj_iconst C dX9_bits_82 ?_
      refine xj_iload C 3 dX9_bits_83 rfl ?_
      refine xj_imul C dX9_bits_85 ?_
      refine xj_iadd C dX9_bits_86 ?_
      refine xj_lshl C dX9_bits_87 ?_
      refine xj_ladd C dX9_bits_88 ?_
      refine xj_lstore_n C (L1 := [(2, .long (v2 + (((xi (S 3 ((3 * p1) + v4))).toInt64) <<< ((xi (10 + (4 * v4))).toInt64 &&& 63)))), (0, .ref (ad 24)), (1, .int (xi p1)), (4, .int (xi v4))]) dX9_bits_89 rfl (by decide) rfl ?_
      refine xj_iinc C 3 (L1 := [(4, .int (xi (v4 + 1))), (2, .long (v2 + (((xi (S 3 ((3 * p1) + v4))).toInt64) <<< ((xi (10 + (4 * v4))).toInt64 &&& 63)))), (0, .ref (ad 24)), (1, .int (xi p1))]) dX9_bits_90 rfl (by decide) rfl ?_
      refine xj_goto C (tgt := 61) dX9_bits_93 (by decide) ?_
      refine xj_loc C [2, 3, 1, 0] (L1 := [(0, .ref (ad 24)), (1, .int (xi p1)), (2, .long (v2 + (((xi (S 3 ((3 * p1) + v4))).toInt64) <<< ((xi (10 + (4 * v4))).toInt64 &&& 63)))), (4, .int (xi (v4 + 1)))]) rfl ?_
      exact ih _ _ _ hM K
set_option maxRecDepth 100000 in
set_option maxHeartbeats 4000000 in
theorem j_X9_bits_L99 {l : Launch} {D : va_G} {k : Nat → ClassId} {ad : Nat → Nat} {o : xO} {X : xX} (C : xC D k o X cX9_bits 5 RX9 wsX9_bits (some .long) rmX9_bits) (p1 : Int) (S : xS) : ∀ (n : Nat) (v2 : Int64) (v4 : Int) (r : Int64), m_X9_bits_L99 p1 S n v2 v4 = some r → (xJ l D k o X 5 136 [(2, .long r)] [] (wY ad k S)) → xJ l D k o X 5 99 [(0, .ref (ad 24)), (1, .int (xi p1)), (2, .long v2), (4, .int (xi v4))] [] (wY ad k S) := by
  intro n
  induction n with
  | zero =>
    intro v2 v4 r hM
    cases hM
  | succ n ih =>
    intro v2 v4 r hM K
    unfold m_X9_bits_L99 at hM
    refine xj_iload C 3 dX9_bits_99 rfl ?_
    refine xj_bipush C (n := 8) (by decide) dX9_bits_101 ?_
    obtain ⟨g15, hM⟩ := xck_some hM
    refine xj_icmp_ge C (tgt := 136) dX9_bits_103 (by decide) ⟨g15, (by decide)⟩ (fun c16 => ?_) (fun c16 => ?_)
    · have hM := xit hM c16
      obtain rfl := Option.some.inj hM
      refine xj_loc C [2] (L1 := [(2, .long v2)]) rfl ?_
      exact K
    · have hM := xif hM c16
      refine xj_lload_n C 2 dX9_bits_106 rfl rfl ?_
      refine xj_aload_n C 0 dX9_bits_107 rfl rfl ?_
      refine xj_get C (fun _ h => List.mem_cons_of_mem _ (List.mem_append_right _ h)) 24 (eY_24 ad k S) rfl 4 (by decide) (List.mem_of_getElem? (i := 7) rfl) (fun _ _ h => h) rfl dX9_bits_108 ?_
      refine xj_bipush C (n := 8) (by decide) dX9_bits_111 ?_
      refine xj_iload_n C 1 dX9_bits_113 rfl rfl ?_
      refine xj_imul C dX9_bits_114 ?_
      refine xj_iload C 3 dX9_bits_115 rfl ?_
      refine xj_iadd C dX9_bits_117 ?_
      obtain ⟨g17, hM⟩ := xck_some hM
      refine xj_iald C 4 S 4 (eY_4 ad k S) (Nat.le_of_ble_eq_true rfl) g17 dX9_bits_118 ?_
      refine xj_i2l C dX9_bits_119 ?_
      refine xj_bipush C (n := 22) (by decide) dX9_bits_120 ?_
      refine xj_iconst C dX9_bits_122 ?_
      refine xj_iload C 3 dX9_bits_123 rfl ?_
      refine xj_imul C dX9_bits_125 ?_
      refine xj_iadd C dX9_bits_126 ?_
      refine xj_lshl C dX9_bits_127 ?_
      refine xj_ladd C dX9_bits_128 ?_
      refine xj_lstore_n C (L1 := [(2, .long (v2 + (((xi (S 4 ((8 * p1) + v4))).toInt64) <<< ((xi (22 + (3 * v4))).toInt64 &&& 63)))), (0, .ref (ad 24)), (1, .int (xi p1)), (4, .int (xi v4))]) dX9_bits_129 rfl (by decide) rfl ?_
      refine xj_iinc C 3 (L1 := [(4, .int (xi (v4 + 1))), (2, .long (v2 + (((xi (S 4 ((8 * p1) + v4))).toInt64) <<< ((xi (22 + (3 * v4))).toInt64 &&& 63)))), (0, .ref (ad 24)), (1, .int (xi p1))]) dX9_bits_130 rfl (by decide) rfl ?_
      refine xj_goto C (tgt := 99) dX9_bits_133 (by decide) ?_
      refine xj_loc C [2, 3, 1, 0] (L1 := [(0, .ref (ad 24)), (1, .int (xi p1)), (2, .long (v2 + (((xi (S 4 ((8 * p1) + v4))).toInt64) <<< ((xi (22 + (3 * v4))).toInt64 &&& 63)))), (4, .int (xi (v4 + 1)))]) rfl ?_
      exact ih _ _ _ hM K
set_option maxRecDepth 100000 in
set_option maxHeartbeats 4000000 in
theorem c_X9_bits {l : Launch} {D : va_G} {k : Nat → ClassId} {ad : Nat → Nat} {S : xS} {p1 : Int} {res : Int64} (hM : m_X9_bits p1 S = some res) : xM l yX9_bits wsX9_bits rmX9_bits D k [.ref (ad 24), .int (xi p1)] (wY ad k S) (some (.long res)) (wY ad k S) := by
  refine xM_of (ret := (some .long)) (by decide) rfl (Nat.le_of_ble_eq_true rfl) (fun X C => ?_)
  have C : xC D k (xo X D k (some (.long res)) (wY ad k S)) X cX9_bits 5 RX9 wsX9_bits (some .long) rmX9_bits := C
  show xJ l D k (xo X D k (some (.long res)) (wY ad k S)) X 5 0 [(0, .ref (ad 24)), (1, .int (xi p1))] [] (wY ad k S)
  unfold m_X9_bits at hM
  refine xj_iload_n C 1 dX9_bits_0 rfl rfl ?_
  refine xj_iconst C dX9_bits_1 ?_
  refine xj_bipush C (n := 15) (by decide) dX9_bits_2 ?_
  obtain ⟨r1, hRr1, hM⟩ := xbd hM
  refine xj_callS C [.int (xi p1), .int (xi 0), .int (xi 15)] [] 3 (c_X9_in hRr1) gX9_bits_X9_in rfl ⟨rfl, rfl⟩ hv_X9_in ⟨Nat.le_of_ble_eq_true rfl, Nat.le_of_ble_eq_true rfl⟩ rfl (Nat.le_of_ble_eq_true rfl) dX9_bits_4 ?_
  obtain ⟨g2, hM⟩ := xck_some hM
  refine xj_if_ne C (tgt := 12) dX9_bits_7 (by decide) g2 (fun c3 => ?_) (fun c3 => ?_)
  · have hM := xif hM c3
    refine xj_aload_n C 0 dX9_bits_12 rfl rfl ?_
    refine xj_get C (fun _ h => List.mem_cons_of_mem _ (List.mem_append_right _ h)) 24 (eY_24 ad k S) rfl 0 (by decide) (List.mem_of_getElem? (i := 1) rfl) (fun _ _ h => h) rfl dX9_bits_13 ?_
    refine xj_iload_n C 1 dX9_bits_16 rfl rfl ?_
    obtain ⟨g4, hM⟩ := xck_some hM
    refine xj_iald C 0 S 0 (eY_0 ad k S) (Nat.le_of_ble_eq_true rfl) g4 dX9_bits_17 ?_
    refine xj_i2l C dX9_bits_18 ?_
    refine xj_lstore_n C (L1 := [(2, .long ((xi (S 0 p1)).toInt64)), (0, .ref (ad 24)), (1, .int (xi p1))]) dX9_bits_19 rfl (by decide) rfl ?_
    refine xj_lload_n C 0 dX9_bits_20 rfl rfl ?_
    refine xj_aload_n C 1 dX9_bits_21 rfl rfl ?_
    refine xj_get C (fun _ h => List.mem_cons_of_mem _ (List.mem_append_right _ h)) 24 (eY_24 ad k S) rfl 1 (by decide) (List.mem_of_getElem? (i := 2) rfl) (fun _ _ h => h) rfl dX9_bits_22 ?_
    refine xj_iload_n C 2 dX9_bits_25 rfl rfl ?_
    refine xj_zald C 1 S 1 (eY_1 ad k S) (Nat.le_of_ble_eq_true rfl) g4 dX9_bits_26 ?_
    obtain ⟨r5, hRr5, hM⟩ := xbd hM
    have Kr5 : xJ l D k (xo X D k (some (.long res)) (wY ad k S)) X 5 37 [(0, .ref (ad 24)), (1, .int (xi p1))] [.long r5, .long ((xi (S 0 p1)).toInt64)] (wY ad k S) := by
      refine xj_ladd C dX9_bits_37 ?_
      refine xj_lstore_n C (L1 := [(2, .long (((xi (S 0 p1)).toInt64) + r5)), (0, .ref (ad 24)), (1, .int (xi p1))]) dX9_bits_38 rfl (by decide) rfl ?_
      refine xj_lload_n C 0 dX9_bits_39 rfl rfl ?_
      refine xj_aload_n C 1 dX9_bits_40 rfl rfl ?_
      refine xj_get C (fun _ h => List.mem_cons_of_mem _ (List.mem_append_right _ h)) 24 (eY_24 ad k S) rfl 2 (by decide) (List.mem_of_getElem? (i := 4) rfl) (fun _ _ h => h) rfl dX9_bits_41 ?_
      refine xj_iload_n C 2 dX9_bits_44 rfl rfl ?_
      refine xj_zald C 2 S 2 (eY_2 ad k S) (Nat.le_of_ble_eq_true rfl) g4 dX9_bits_45 ?_
      obtain ⟨r8, hRr8, hM⟩ := xbd hM
      have Kr8 : xJ l D k (xo X D k (some (.long res)) (wY ad k S)) X 5 56 [(0, .ref (ad 24)), (1, .int (xi p1))] [.long r8, .long (((xi (S 0 p1)).toInt64) + r5)] (wY ad k S) := by
        refine xj_ladd C dX9_bits_56 ?_
        refine xj_lstore_n C (L1 := [(2, .long ((((xi (S 0 p1)).toInt64) + r5) + r8)), (0, .ref (ad 24)), (1, .int (xi p1))]) dX9_bits_57 rfl (by decide) rfl ?_
        refine xj_iconst C dX9_bits_58 ?_
        refine xj_istore C (L1 := [(4, .int (xi 0)), (2, .long ((((xi (S 0 p1)).toInt64) + r5) + r8)), (0, .ref (ad 24)), (1, .int (xi p1))]) dX9_bits_59 (by decide) rfl ?_
        obtain ⟨r14, hLr14, hM⟩ := xbd hM
        refine xj_loc C [2, 3, 1, 0] (L1 := [(0, .ref (ad 24)), (1, .int (xi p1)), (2, .long ((((xi (S 0 p1)).toInt64) + r5) + r8)), (4, .int (xi 0))]) rfl ?_
        refine j_X9_bits_L61 C p1 S _ _ _ _ hLr14 ?_
        refine xj_iconst C dX9_bits_96 ?_
        refine xj_istore C (L1 := [(4, .int (xi 0)), (0, .ref (ad 24)), (1, .int (xi p1)), (2, .long r14)]) dX9_bits_97 (by decide) rfl ?_
        obtain ⟨r18, hLr18, hM⟩ := xbd hM
        refine xj_loc C [1, 2, 3, 0] (L1 := [(0, .ref (ad 24)), (1, .int (xi p1)), (2, .long r14), (4, .int (xi 0))]) rfl ?_
        refine j_X9_bits_L99 C p1 S _ _ _ _ hLr18 ?_
        refine xj_lload_n C 0 dX9_bits_136 rfl rfl ?_
        obtain rfl := Option.some.inj hM
        exact xj_lret C rfl dX9_bits_137
      clear hM
      have hM := hRr8
      obtain ⟨g9, hM⟩ := xck_some hM
      refine xj_if_eq C (tgt := 55) dX9_bits_46 (by decide) g9 (fun c10 => ?_) (fun c10 => ?_)
      · have hM := xit hM c10
        refine xj_lconst C (v := 0) rfl dX9_bits_55 ?_
        obtain rfl := Option.some.inj hM
        refine xj_loc C [1, 2] (L1 := [(0, .ref (ad 24)), (1, .int (xi p1))]) rfl ?_
        exact Kr8
      · have hM := xif hM c10
        refine xj_ldc2 C (List.mem_of_getElem? (i := 5) rfl) dX9_bits_49 ?_
        refine xj_goto C (tgt := 56) dX9_bits_52 (by decide) ?_
        obtain rfl := Option.some.inj hM
        refine xj_loc C [1, 2] (L1 := [(0, .ref (ad 24)), (1, .int (xi p1))]) rfl ?_
        exact Kr8
    clear hM
    have hM := hRr5
    obtain ⟨g6, hM⟩ := xck_some hM
    refine xj_if_eq C (tgt := 36) dX9_bits_27 (by decide) g6 (fun c7 => ?_) (fun c7 => ?_)
    · have hM := xit hM c7
      refine xj_lconst C (v := 0) rfl dX9_bits_36 ?_
      obtain rfl := Option.some.inj hM
      refine xj_loc C [1, 2] (L1 := [(0, .ref (ad 24)), (1, .int (xi p1))]) rfl ?_
      exact Kr5
    · have hM := xif hM c7
      refine xj_ldc2 C (List.mem_of_getElem? (i := 3) rfl) dX9_bits_30 ?_
      refine xj_goto C (tgt := 37) dX9_bits_33 (by decide) ?_
      obtain rfl := Option.some.inj hM
      refine xj_loc C [1, 2] (L1 := [(0, .ref (ad 24)), (1, .int (xi p1))]) rfl ?_
      exact Kr5
  · have hM := xit hM c3
    refine xj_lconst C (v := 0) rfl dX9_bits_10 ?_
    obtain rfl := Option.some.inj hM
    exact xj_lret C rfl dX9_bits_11
def rmX9_load : Room := { frames := 1, cells := 0, slots := 0, locals := 22 }
theorem hv_X9_load : yX9_load.cls = RX9 ∧ yX9_load.cls ≠ "java/lang/invoke/MethodHandle" ∧ yX9_load.cls ≠ "java/lang/invoke/VarHandle" ∧ (parseMethodDescriptor yX9_load.desc).map (fun d => d.parameters.length) = some 2 := by decide +kernel
def m_X9_load_L33 (p1 : Int) (p2 : Int64) (S : xS) : Nat → Int → Int → Option (Int)
  | 0, _, _ => none
  | n + 1, v4, v5 => xck (xr v5) (if 3 ≤ v5 then some v4 else (xck (xr v4) (if v4 = 0 then some 0 else (if 0 < (xb_lcmp ((p2 >>> ((xi (10 + (4 * v5))).toInt64 &&& 63)) &&& (15 : Int64)) (9 : Int64)) then some 0 else some 1))).bind (fun r8 => m_X9_load_L33 p1 p2 S n r8 (v5 + 1)))
def m_X9_load_L80 (p1 : Int) (p2 : Int64) (S : xS) : Nat → Int → Int → Option (Int)
  | 0, _, _ => none
  | n + 1, v4, v5 => xck (xr v5) (if 8 ≤ v5 then some v4 else (xck (xr v4) (if v4 = 0 then some 0 else (if 0 < (xb_lcmp ((p2 >>> ((xi (22 + (3 * v5))).toInt64 &&& 63)) &&& (7 : Int64)) (4 : Int64)) then some 0 else some 1))).bind (fun r15 => m_X9_load_L80 p1 p2 S n r15 (v5 + 1)))
def m_X9_load_L222 (p1 : Int) (p2 : Int64) : Nat → Int → xS → Option (xS)
  | 0, _, _ => none
  | n + 1, v6, S => xck (xr v6) (if 3 ≤ v6 then some S else xck (0 ≤ ((3 * p1) + v6) ∧ ((3 * p1) + v6) < 48) (m_X9_load_L222 p1 p2 n (v6 + 1) (xup S 3 ((3 * p1) + v6) (((p2 >>> ((xi (10 + (4 * v6))).toInt64 &&& 63)) &&& (15 : Int64)).toInt32.toInt))))
def m_X9_load_L262 (p1 : Int) (p2 : Int64) : Nat → Int → xS → Option (xS)
  | 0, _, _ => none
  | n + 1, v6, S => xck (xr v6) (if 8 ≤ v6 then some S else xck (0 ≤ ((8 * p1) + v6) ∧ ((8 * p1) + v6) < 128) (m_X9_load_L262 p1 p2 n (v6 + 1) (xup S 4 ((8 * p1) + v6) (((p2 >>> ((xi (22 + (3 * v6))).toInt64 &&& 63)) &&& (7 : Int64)).toInt32.toInt))))
def m_X9_load (p1 : Int) (p2 : Int64) (S : xS) : Option (Int × xS) := (m_X9_in p1 0 15).bind (fun r1 => xck (xr r1) (if r1 = 0 then some (0, S) else (if (xb_lcmp p2 (0 : Int64)) < 0 then some (0, S) else (if (xb_lcmp (p2 >>> ((xi 46).toInt64 &&& 63)) (0 : Int64)) = 0 then (m_X9_load_L33 p1 p2 S 2000 1 0).bind (fun r12 => (m_X9_load_L80 p1 p2 S 2000 r12 0).bind (fun r19 => xck (xr r19) (if r19 = 0 then some (0, S) else ((if (xb_lcmp ((p2 >>> ((xi 8).toInt64 &&& 63)) &&& (1 : Int64)) (1 : Int64)) = 0 then some 1 else some 0)).bind (fun r22 => xck (0 ≤ p1 ∧ p1 < 16) ((xck (xr r22 ∧ xr (S 1 p1)) (if r22 = (S 1 p1) then some (S 5 p1) else some 0)).bind (fun r25 => xck ((0 ≤ p1 ∧ p1 < 16) ∧ (r22 = 0 ∨ r22 = 1)) (((if (xb_lcmp ((p2 >>> ((xi 9).toInt64 &&& 63)) &&& (1 : Int64)) (1 : Int64)) = 0 then some 1 else some 0)).bind (fun r29 => xck ((r29 = 0 ∨ r29 = 1)) ((m_X9_load_L222 p1 p2 2000 0 (xup (xup (xup (xup S 5 p1 r25) 0 p1 ((p2 &&& (255 : Int64)).toInt32.toInt)) 1 p1 r22) 2 p1 r29)).bind (fun r35 => (m_X9_load_L262 p1 p2 2000 0 r35).bind (fun r39 => some (1, r39)))))))))))) else some (0, S)))))
set_option maxRecDepth 100000 in
set_option maxHeartbeats 4000000 in
theorem j_X9_load_L33 {l : Launch} {D : va_G} {k : Nat → ClassId} {ad : Nat → Nat} {o : xO} {X : xX} (C : xC D k o X cX9_load 7 RX9 wsX9_load (some .boolean) rmX9_load) (p1 : Int) (p2 : Int64) (S : xS) : ∀ (n : Nat) (v4 : Int) (v5 : Int) (r : Int), m_X9_load_L33 p1 p2 S n v4 v5 = some r → (xJ l D k o X 7 77 [(0, .ref (ad 24)), (1, .int (xi p1)), (2, .long p2), (4, .int (xi r))] [] (wY ad k S)) → xJ l D k o X 7 33 [(0, .ref (ad 24)), (1, .int (xi p1)), (2, .long p2), (4, .int (xi v4)), (5, .int (xi v5))] [] (wY ad k S) := by
  intro n
  induction n with
  | zero =>
    intro v4 v5 r hM
    cases hM
  | succ n ih =>
    intro v4 v5 r hM K
    unfold m_X9_load_L33 at hM
    refine xj_iload C 4 dX9_load_33 rfl ?_
    refine xj_iconst C dX9_load_35 ?_
    obtain ⟨g6, hM⟩ := xck_some hM
    refine xj_icmp_ge C (tgt := 77) dX9_load_36 (by decide) ⟨g6, (by decide)⟩ (fun c7 => ?_) (fun c7 => ?_)
    · have hM := xit hM c7
      obtain rfl := Option.some.inj hM
      refine xj_loc C [0, 1, 2, 3] (L1 := [(0, .ref (ad 24)), (1, .int (xi p1)), (2, .long p2), (4, .int (xi v4))]) rfl ?_
      exact K
    · have hM := xif hM c7
      refine xj_iload C 3 dX9_load_39 rfl ?_
      obtain ⟨r8, hRr8, hM⟩ := xbd hM
      have Kr8 : xJ l D k o X 7 69 [(0, .ref (ad 24)), (1, .int (xi p1)), (2, .long p2), (5, .int (xi v5))] [.int (xi r8)] (wY ad k S) := by
        refine xj_istore C (L1 := [(4, .int (xi r8)), (0, .ref (ad 24)), (1, .int (xi p1)), (2, .long p2), (5, .int (xi v5))]) dX9_load_69 (by decide) rfl ?_
        refine xj_iinc C 4 (L1 := [(5, .int (xi (v5 + 1))), (4, .int (xi r8)), (0, .ref (ad 24)), (1, .int (xi p1)), (2, .long p2)]) dX9_load_71 rfl (by decide) rfl ?_
        refine xj_goto C (tgt := 33) dX9_load_74 (by decide) ?_
        refine xj_loc C [2, 3, 4, 1, 0] (L1 := [(0, .ref (ad 24)), (1, .int (xi p1)), (2, .long p2), (4, .int (xi r8)), (5, .int (xi (v5 + 1)))]) rfl ?_
        exact ih _ _ _ hM K
      clear hM
      have hM := hRr8
      obtain ⟨g9, hM⟩ := xck_some hM
      refine xj_if_eq C (tgt := 68) dX9_load_41 (by decide) g9 (fun c10 => ?_) (fun c10 => ?_)
      · have hM := xit hM c10
        refine xj_iconst C dX9_load_68 ?_
        obtain rfl := Option.some.inj hM
        refine xj_loc C [0, 1, 2, 4] (L1 := [(0, .ref (ad 24)), (1, .int (xi p1)), (2, .long p2), (5, .int (xi v5))]) rfl ?_
        exact Kr8
      · have hM := xif hM c10
        refine xj_lload_n C 2 dX9_load_44 rfl rfl ?_
        refine xj_bipush C (n := 10) (by decide) dX9_load_45 ?_
        refine xj_iconst C dX9_load_47 ?_
        refine xj_iload C 4 dX9_load_48 rfl ?_
        refine xj_imul C dX9_load_50 ?_
        refine xj_iadd C dX9_load_51 ?_
        refine xj_lshr C dX9_load_52 ?_
        refine xj_ldc2 C (List.mem_of_getElem? (i := 1) rfl) dX9_load_53 ?_
        refine xj_land C dX9_load_56 ?_
        refine xj_ldc2 C (List.mem_of_getElem? (i := 2) rfl) dX9_load_57 ?_
        refine xj_lcmp C dX9_load_60 ?_
        refine xj_if_gt C (tgt := 68) dX9_load_61 (by decide) (xr_lcmp _ _) (fun c11 => ?_) (fun c11 => ?_)
        · have hM := xit hM c11
          refine xj_iconst C dX9_load_68 ?_
          obtain rfl := Option.some.inj hM
          refine xj_loc C [0, 1, 2, 4] (L1 := [(0, .ref (ad 24)), (1, .int (xi p1)), (2, .long p2), (5, .int (xi v5))]) rfl ?_
          exact Kr8
        · have hM := xif hM c11
          refine xj_iconst C dX9_load_64 ?_
          refine xj_goto C (tgt := 69) dX9_load_65 (by decide) ?_
          obtain rfl := Option.some.inj hM
          refine xj_loc C [0, 1, 2, 4] (L1 := [(0, .ref (ad 24)), (1, .int (xi p1)), (2, .long p2), (5, .int (xi v5))]) rfl ?_
          exact Kr8
set_option maxRecDepth 100000 in
set_option maxHeartbeats 4000000 in
theorem j_X9_load_L80 {l : Launch} {D : va_G} {k : Nat → ClassId} {ad : Nat → Nat} {o : xO} {X : xX} (C : xC D k o X cX9_load 7 RX9 wsX9_load (some .boolean) rmX9_load) (p1 : Int) (p2 : Int64) (S : xS) : ∀ (n : Nat) (v4 : Int) (v5 : Int) (r : Int), m_X9_load_L80 p1 p2 S n v4 v5 = some r → (xJ l D k o X 7 125 [(0, .ref (ad 24)), (1, .int (xi p1)), (2, .long p2), (4, .int (xi r))] [] (wY ad k S)) → xJ l D k o X 7 80 [(0, .ref (ad 24)), (1, .int (xi p1)), (2, .long p2), (4, .int (xi v4)), (5, .int (xi v5))] [] (wY ad k S) := by
  intro n
  induction n with
  | zero =>
    intro v4 v5 r hM
    cases hM
  | succ n ih =>
    intro v4 v5 r hM K
    unfold m_X9_load_L80 at hM
    refine xj_iload C 4 dX9_load_80 rfl ?_
    refine xj_bipush C (n := 8) (by decide) dX9_load_82 ?_
    obtain ⟨g13, hM⟩ := xck_some hM
    refine xj_icmp_ge C (tgt := 125) dX9_load_84 (by decide) ⟨g13, (by decide)⟩ (fun c14 => ?_) (fun c14 => ?_)
    · have hM := xit hM c14
      obtain rfl := Option.some.inj hM
      refine xj_loc C [0, 1, 2, 3] (L1 := [(0, .ref (ad 24)), (1, .int (xi p1)), (2, .long p2), (4, .int (xi v4))]) rfl ?_
      exact K
    · have hM := xif hM c14
      refine xj_iload C 3 dX9_load_87 rfl ?_
      obtain ⟨r15, hRr15, hM⟩ := xbd hM
      have Kr15 : xJ l D k o X 7 117 [(0, .ref (ad 24)), (1, .int (xi p1)), (2, .long p2), (5, .int (xi v5))] [.int (xi r15)] (wY ad k S) := by
        refine xj_istore C (L1 := [(4, .int (xi r15)), (0, .ref (ad 24)), (1, .int (xi p1)), (2, .long p2), (5, .int (xi v5))]) dX9_load_117 (by decide) rfl ?_
        refine xj_iinc C 4 (L1 := [(5, .int (xi (v5 + 1))), (4, .int (xi r15)), (0, .ref (ad 24)), (1, .int (xi p1)), (2, .long p2)]) dX9_load_119 rfl (by decide) rfl ?_
        refine xj_goto C (tgt := 80) dX9_load_122 (by decide) ?_
        refine xj_loc C [2, 3, 4, 1, 0] (L1 := [(0, .ref (ad 24)), (1, .int (xi p1)), (2, .long p2), (4, .int (xi r15)), (5, .int (xi (v5 + 1)))]) rfl ?_
        exact ih _ _ _ hM K
      clear hM
      have hM := hRr15
      obtain ⟨g16, hM⟩ := xck_some hM
      refine xj_if_eq C (tgt := 116) dX9_load_89 (by decide) g16 (fun c17 => ?_) (fun c17 => ?_)
      · have hM := xit hM c17
        refine xj_iconst C dX9_load_116 ?_
        obtain rfl := Option.some.inj hM
        refine xj_loc C [0, 1, 2, 4] (L1 := [(0, .ref (ad 24)), (1, .int (xi p1)), (2, .long p2), (5, .int (xi v5))]) rfl ?_
        exact Kr15
      · have hM := xif hM c17
        refine xj_lload_n C 2 dX9_load_92 rfl rfl ?_
        refine xj_bipush C (n := 22) (by decide) dX9_load_93 ?_
        refine xj_iconst C dX9_load_95 ?_
        refine xj_iload C 4 dX9_load_96 rfl ?_
        refine xj_imul C dX9_load_98 ?_
        refine xj_iadd C dX9_load_99 ?_
        refine xj_lshr C dX9_load_100 ?_
        refine xj_ldc2 C (List.mem_of_getElem? (i := 3) rfl) dX9_load_101 ?_
        refine xj_land C dX9_load_104 ?_
        refine xj_ldc2 C (List.mem_of_getElem? (i := 4) rfl) dX9_load_105 ?_
        refine xj_lcmp C dX9_load_108 ?_
        refine xj_if_gt C (tgt := 116) dX9_load_109 (by decide) (xr_lcmp _ _) (fun c18 => ?_) (fun c18 => ?_)
        · have hM := xit hM c18
          refine xj_iconst C dX9_load_116 ?_
          obtain rfl := Option.some.inj hM
          refine xj_loc C [0, 1, 2, 4] (L1 := [(0, .ref (ad 24)), (1, .int (xi p1)), (2, .long p2), (5, .int (xi v5))]) rfl ?_
          exact Kr15
        · have hM := xif hM c18
          refine xj_iconst C dX9_load_112 ?_
          refine xj_goto C (tgt := 117) dX9_load_113 (by decide) ?_
          obtain rfl := Option.some.inj hM
          refine xj_loc C [0, 1, 2, 4] (L1 := [(0, .ref (ad 24)), (1, .int (xi p1)), (2, .long p2), (5, .int (xi v5))]) rfl ?_
          exact Kr15
set_option maxRecDepth 100000 in
set_option maxHeartbeats 4000000 in
theorem j_X9_load_L222 {l : Launch} {D : va_G} {k : Nat → ClassId} {ad : Nat → Nat} {o : xO} {X : xX} (C : xC D k o X cX9_load 7 RX9 wsX9_load (some .boolean) rmX9_load) (p1 : Int) (p2 : Int64) : ∀ (n : Nat) (v6 : Int) (S : xS) (r : xS), m_X9_load_L222 p1 p2 n v6 S = some r → (xJ l D k o X 7 259 [(0, .ref (ad 24)), (1, .int (xi p1)), (2, .long p2)] [] (wY ad k r)) → xJ l D k o X 7 222 [(0, .ref (ad 24)), (1, .int (xi p1)), (2, .long p2), (6, .int (xi v6))] [] (wY ad k S) := by
  intro n
  induction n with
  | zero =>
    intro v6 S r hM
    cases hM
  | succ n ih =>
    intro v6 S r hM K
    unfold m_X9_load_L222 at hM
    refine xj_iload C 3 dX9_load_222 rfl ?_
    refine xj_iconst C dX9_load_224 ?_
    obtain ⟨g32, hM⟩ := xck_some hM
    refine xj_icmp_ge C (tgt := 259) dX9_load_225 (by decide) ⟨g32, (by decide)⟩ (fun c33 => ?_) (fun c33 => ?_)
    · have hM := xit hM c33
      obtain rfl := Option.some.inj hM
      refine xj_loc C [0, 1, 2] (L1 := [(0, .ref (ad 24)), (1, .int (xi p1)), (2, .long p2)]) rfl ?_
      exact K
    · have hM := xif hM c33
      refine xj_aload_n C 0 dX9_load_228 rfl rfl ?_
      refine xj_get C (fun _ h => List.mem_cons_of_mem _ (List.mem_append_right _ h)) 24 (eY_24 ad k S) rfl 3 (by decide) (List.mem_of_getElem? (i := 10) rfl) (fun _ _ h => h) rfl dX9_load_229 ?_
      refine xj_iconst C dX9_load_232 ?_
      refine xj_iload_n C 1 dX9_load_233 rfl rfl ?_
      refine xj_imul C dX9_load_234 ?_
      refine xj_iload C 3 dX9_load_235 rfl ?_
      refine xj_iadd C dX9_load_237 ?_
      refine xj_lload_n C 2 dX9_load_238 rfl rfl ?_
      refine xj_bipush C (n := 10) (by decide) dX9_load_239 ?_
      refine xj_iconst C dX9_load_241 ?_
      refine xj_iload C 3 dX9_load_242 rfl ?_
      refine xj_imul C dX9_load_244 ?_
      refine xj_iadd C dX9_load_245 ?_
      refine xj_lshr C dX9_load_246 ?_
      refine xj_ldc2 C (List.mem_of_getElem? (i := 1) rfl) dX9_load_247 ?_
      refine xj_land C dX9_load_250 ?_
      refine xj_l2i C dX9_load_251 ?_
      obtain ⟨g34, hM⟩ := xck_some hM
      refine xj_iast C 3 S 3 (eY_3 ad k S) (Nat.le_of_ble_eq_true rfl) g34 (sY_3 ad k S ((3 * p1) + v6) (((p2 >>> ((xi (10 + (4 * v6))).toInt64 &&& 63)) &&& (15 : Int64)).toInt32.toInt)) dX9_load_252 ?_
      refine xj_iinc C 3 (L1 := [(6, .int (xi (v6 + 1))), (0, .ref (ad 24)), (1, .int (xi p1)), (2, .long p2)]) dX9_load_253 rfl (by decide) rfl ?_
      refine xj_goto C (tgt := 222) dX9_load_256 (by decide) ?_
      refine xj_loc C [1, 2, 3, 0] (L1 := [(0, .ref (ad 24)), (1, .int (xi p1)), (2, .long p2), (6, .int (xi (v6 + 1)))]) rfl ?_
      exact ih _ _ _ hM K
set_option maxRecDepth 100000 in
set_option maxHeartbeats 4000000 in
theorem j_X9_load_L262 {l : Launch} {D : va_G} {k : Nat → ClassId} {ad : Nat → Nat} {o : xO} {X : xX} (C : xC D k o X cX9_load 7 RX9 wsX9_load (some .boolean) rmX9_load) (p1 : Int) (p2 : Int64) : ∀ (n : Nat) (v6 : Int) (S : xS) (r : xS), m_X9_load_L262 p1 p2 n v6 S = some r → (xJ l D k o X 7 301 [] [] (wY ad k r)) → xJ l D k o X 7 262 [(0, .ref (ad 24)), (1, .int (xi p1)), (2, .long p2), (6, .int (xi v6))] [] (wY ad k S) := by
  intro n
  induction n with
  | zero =>
    intro v6 S r hM
    cases hM
  | succ n ih =>
    intro v6 S r hM K
    unfold m_X9_load_L262 at hM
    refine xj_iload C 3 dX9_load_262 rfl ?_
    refine xj_bipush C (n := 8) (by decide) dX9_load_264 ?_
    obtain ⟨g36, hM⟩ := xck_some hM
    refine xj_icmp_ge C (tgt := 301) dX9_load_266 (by decide) ⟨g36, (by decide)⟩ (fun c37 => ?_) (fun c37 => ?_)
    · have hM := xit hM c37
      obtain rfl := Option.some.inj hM
      refine xj_loc C [] (L1 := []) rfl ?_
      exact K
    · have hM := xif hM c37
      refine xj_aload_n C 0 dX9_load_269 rfl rfl ?_
      refine xj_get C (fun _ h => List.mem_cons_of_mem _ (List.mem_append_right _ h)) 24 (eY_24 ad k S) rfl 4 (by decide) (List.mem_of_getElem? (i := 11) rfl) (fun _ _ h => h) rfl dX9_load_270 ?_
      refine xj_bipush C (n := 8) (by decide) dX9_load_273 ?_
      refine xj_iload_n C 1 dX9_load_275 rfl rfl ?_
      refine xj_imul C dX9_load_276 ?_
      refine xj_iload C 3 dX9_load_277 rfl ?_
      refine xj_iadd C dX9_load_279 ?_
      refine xj_lload_n C 2 dX9_load_280 rfl rfl ?_
      refine xj_bipush C (n := 22) (by decide) dX9_load_281 ?_
      refine xj_iconst C dX9_load_283 ?_
      refine xj_iload C 3 dX9_load_284 rfl ?_
      refine xj_imul C dX9_load_286 ?_
      refine xj_iadd C dX9_load_287 ?_
      refine xj_lshr C dX9_load_288 ?_
      refine xj_ldc2 C (List.mem_of_getElem? (i := 3) rfl) dX9_load_289 ?_
      refine xj_land C dX9_load_292 ?_
      refine xj_l2i C dX9_load_293 ?_
      obtain ⟨g38, hM⟩ := xck_some hM
      refine xj_iast C 4 S 4 (eY_4 ad k S) (Nat.le_of_ble_eq_true rfl) g38 (sY_4 ad k S ((8 * p1) + v6) (((p2 >>> ((xi (22 + (3 * v6))).toInt64 &&& 63)) &&& (7 : Int64)).toInt32.toInt)) dX9_load_294 ?_
      refine xj_iinc C 3 (L1 := [(6, .int (xi (v6 + 1))), (0, .ref (ad 24)), (1, .int (xi p1)), (2, .long p2)]) dX9_load_295 rfl (by decide) rfl ?_
      refine xj_goto C (tgt := 262) dX9_load_298 (by decide) ?_
      refine xj_loc C [1, 2, 3, 0] (L1 := [(0, .ref (ad 24)), (1, .int (xi p1)), (2, .long p2), (6, .int (xi (v6 + 1)))]) rfl ?_
      exact ih _ _ _ hM K
set_option maxRecDepth 100000 in
set_option maxHeartbeats 4000000 in
theorem c_X9_load {l : Launch} {D : va_G} {k : Nat → ClassId} {ad : Nat → Nat} {S : xS} {p1 : Int} {p2 : Int64} {res : Int × xS} (hM : m_X9_load p1 p2 S = some res) : xM l yX9_load wsX9_load rmX9_load D k [.ref (ad 24), .int (xi p1), .long p2] (wY ad k S) (some (.int (xi res.1))) (wY ad k res.2) := by
  refine xM_of (ret := (some .boolean)) (by decide) rfl (Nat.le_of_ble_eq_true rfl) (fun X C => ?_)
  have C : xC D k (xo X D k (some (.int (xi res.1))) (wY ad k res.2)) X cX9_load 7 RX9 wsX9_load (some .boolean) rmX9_load := C
  show xJ l D k (xo X D k (some (.int (xi res.1))) (wY ad k res.2)) X 7 0 [(0, .ref (ad 24)), (1, .int (xi p1)), (2, .long p2)] [] (wY ad k S)
  unfold m_X9_load at hM
  refine xj_iload_n C 1 dX9_load_0 rfl rfl ?_
  refine xj_iconst C dX9_load_1 ?_
  refine xj_bipush C (n := 15) (by decide) dX9_load_2 ?_
  obtain ⟨r1, hRr1, hM⟩ := xbd hM
  refine xj_callS C [.int (xi p1), .int (xi 0), .int (xi 15)] [] 3 (c_X9_in hRr1) gX9_load_X9_in rfl ⟨rfl, rfl⟩ hv_X9_in ⟨Nat.le_of_ble_eq_true rfl, Nat.le_of_ble_eq_true rfl⟩ rfl (Nat.le_of_ble_eq_true rfl) dX9_load_4 ?_
  obtain ⟨g2, hM⟩ := xck_some hM
  refine xj_if_eq C (tgt := 25) dX9_load_7 (by decide) g2 (fun c3 => ?_) (fun c3 => ?_)
  · have hM := xit hM c3
    refine xj_iconst C dX9_load_25 ?_
    obtain rfl := Option.some.inj hM
    exact xj_zret (Or.inl rfl) C rfl dX9_load_26
  · have hM := xif hM c3
    refine xj_lload_n C 2 dX9_load_10 rfl rfl ?_
    refine xj_lconst C (v := 0) rfl dX9_load_11 ?_
    refine xj_lcmp C dX9_load_12 ?_
    refine xj_if_lt C (tgt := 25) dX9_load_13 (by decide) (xr_lcmp _ _) (fun c4 => ?_) (fun c4 => ?_)
    · have hM := xit hM c4
      refine xj_iconst C dX9_load_25 ?_
      obtain rfl := Option.some.inj hM
      exact xj_zret (Or.inl rfl) C rfl dX9_load_26
    · have hM := xif hM c4
      refine xj_lload_n C 2 dX9_load_16 rfl rfl ?_
      refine xj_bipush C (n := 46) (by decide) dX9_load_17 ?_
      refine xj_lshr C dX9_load_19 ?_
      refine xj_lconst C (v := 0) rfl dX9_load_20 ?_
      refine xj_lcmp C dX9_load_21 ?_
      refine xj_if_eq C (tgt := 27) dX9_load_22 (by decide) (xr_lcmp _ _) (fun c5 => ?_) (fun c5 => ?_)
      · have hM := xit hM c5
        refine xj_iconst C dX9_load_27 ?_
        refine xj_istore C (L1 := [(4, .int (xi 1)), (0, .ref (ad 24)), (1, .int (xi p1)), (2, .long p2)]) dX9_load_28 (by decide) rfl ?_
        refine xj_iconst C dX9_load_30 ?_
        refine xj_istore C (L1 := [(5, .int (xi 0)), (4, .int (xi 1)), (0, .ref (ad 24)), (1, .int (xi p1)), (2, .long p2)]) dX9_load_31 (by decide) rfl ?_
        obtain ⟨r12, hLr12, hM⟩ := xbd hM
        refine xj_loc C [2, 3, 4, 1, 0] (L1 := [(0, .ref (ad 24)), (1, .int (xi p1)), (2, .long p2), (4, .int (xi 1)), (5, .int (xi 0))]) rfl ?_
        refine j_X9_load_L33 C p1 p2 S _ _ _ _ hLr12 ?_
        refine xj_iconst C dX9_load_77 ?_
        refine xj_istore C (L1 := [(5, .int (xi 0)), (0, .ref (ad 24)), (1, .int (xi p1)), (2, .long p2), (4, .int (xi r12))]) dX9_load_78 (by decide) rfl ?_
        obtain ⟨r19, hLr19, hM⟩ := xbd hM
        refine xj_loc C [1, 2, 3, 4, 0] (L1 := [(0, .ref (ad 24)), (1, .int (xi p1)), (2, .long p2), (4, .int (xi r12)), (5, .int (xi 0))]) rfl ?_
        refine j_X9_load_L80 C p1 p2 S _ _ _ _ hLr19 ?_
        refine xj_iload C 3 dX9_load_125 rfl ?_
        obtain ⟨g20, hM⟩ := xck_some hM
        refine xj_if_ne C (tgt := 132) dX9_load_127 (by decide) g20 (fun c21 => ?_) (fun c21 => ?_)
        · have hM := xif hM c21
          refine xj_lload_n C 2 dX9_load_132 rfl rfl ?_
          refine xj_bipush C (n := 8) (by decide) dX9_load_133 ?_
          refine xj_lshr C dX9_load_135 ?_
          refine xj_lconst C (v := 1) rfl dX9_load_136 ?_
          refine xj_land C dX9_load_137 ?_
          refine xj_lconst C (v := 1) rfl dX9_load_138 ?_
          refine xj_lcmp C dX9_load_139 ?_
          obtain ⟨r22, hRr22, hM⟩ := xbd hM
          have Kr22 : xJ l D k (xo X D k (some (.int (xi res.1))) (wY ad k res.2)) X 7 148 [(0, .ref (ad 24)), (1, .int (xi p1)), (2, .long p2)] [.int (xi r22)] (wY ad k S) := by
            refine xj_istore C (L1 := [(5, .int (xi r22)), (0, .ref (ad 24)), (1, .int (xi p1)), (2, .long p2)]) dX9_load_148 (by decide) rfl ?_
            refine xj_aload_n C 1 dX9_load_150 rfl rfl ?_
            refine xj_get C (fun _ h => List.mem_cons_of_mem _ (List.mem_append_right _ h)) 24 (eY_24 ad k S) rfl 5 (by decide) (List.mem_of_getElem? (i := 5) rfl) (fun _ _ h => h) rfl dX9_load_151 ?_
            refine xj_iload_n C 2 dX9_load_154 rfl rfl ?_
            refine xj_iload C 0 dX9_load_155 rfl ?_
            refine xj_aload_n C 1 dX9_load_157 rfl rfl ?_
            refine xj_get C (fun _ h => List.mem_cons_of_mem _ (List.mem_append_right _ h)) 24 (eY_24 ad k S) rfl 1 (by decide) (List.mem_of_getElem? (i := 6) rfl) (fun _ _ h => h) rfl dX9_load_158 ?_
            refine xj_iload_n C 2 dX9_load_161 rfl rfl ?_
            obtain ⟨g24, hM⟩ := xck_some hM
            refine xj_zald C 1 S 1 (eY_1 ad k S) (Nat.le_of_ble_eq_true rfl) g24 dX9_load_162 ?_
            obtain ⟨r25, hRr25, hM⟩ := xbd hM
            have Kr25 : xJ l D k (xo X D k (some (.int (xi res.1))) (wY ad k res.2)) X 7 176 [(0, .ref (ad 24)), (1, .int (xi p1)), (2, .long p2), (5, .int (xi r22))] [.int (xi r25), .int (xi p1), .ref (ad 5)] (wY ad k S) := by
              refine xj_iast C 5 S 5 (eY_5 ad k S) (Nat.le_of_ble_eq_true rfl) g24 (sY_5 ad k S p1 r25) dX9_load_176 ?_
              refine xj_aload_n C 0 dX9_load_177 rfl rfl ?_
              refine xj_get C (fun _ h => List.mem_cons_of_mem _ (List.mem_append_right _ h)) 24 (eY_24 ad k (xup S 5 p1 r25)) rfl 0 (by decide) (List.mem_of_getElem? (i := 7) rfl) (fun _ _ h => h) rfl dX9_load_178 ?_
              refine xj_iload_n C 1 dX9_load_181 rfl rfl ?_
              refine xj_lload_n C 2 dX9_load_182 rfl rfl ?_
              refine xj_ldc2 C (List.mem_of_getElem? (i := 8) rfl) dX9_load_183 ?_
              refine xj_land C dX9_load_186 ?_
              refine xj_l2i C dX9_load_187 ?_
              refine xj_iast C 0 (xup S 5 p1 r25) 0 (eY_0 ad k (xup S 5 p1 r25)) (Nat.le_of_ble_eq_true rfl) g24 (sY_0 ad k (xup S 5 p1 r25) p1 ((p2 &&& (255 : Int64)).toInt32.toInt)) dX9_load_188 ?_
              refine xj_aload_n C 0 dX9_load_189 rfl rfl ?_
              refine xj_get C (fun _ h => List.mem_cons_of_mem _ (List.mem_append_right _ h)) 24 (eY_24 ad k (xup (xup S 5 p1 r25) 0 p1 ((p2 &&& (255 : Int64)).toInt32.toInt))) rfl 1 (by decide) (List.mem_of_getElem? (i := 6) rfl) (fun _ _ h => h) rfl dX9_load_190 ?_
              refine xj_iload_n C 1 dX9_load_193 rfl rfl ?_
              refine xj_iload C 3 dX9_load_194 rfl ?_
              obtain ⟨g28, hM⟩ := xck_some hM
              refine xj_zast C 1 (xup (xup S 5 p1 r25) 0 p1 ((p2 &&& (255 : Int64)).toInt32.toInt)) 1 (eY_1 ad k (xup (xup S 5 p1 r25) 0 p1 ((p2 &&& (255 : Int64)).toInt32.toInt))) (Nat.le_of_ble_eq_true rfl) g28.2 g28.1 (sY_1 ad k (xup (xup S 5 p1 r25) 0 p1 ((p2 &&& (255 : Int64)).toInt32.toInt)) p1 r22) dX9_load_196 ?_
              refine xj_aload_n C 0 dX9_load_197 rfl rfl ?_
              refine xj_get C (fun _ h => List.mem_cons_of_mem _ (List.mem_append_right _ h)) 24 (eY_24 ad k (xup (xup (xup S 5 p1 r25) 0 p1 ((p2 &&& (255 : Int64)).toInt32.toInt)) 1 p1 r22)) rfl 2 (by decide) (List.mem_of_getElem? (i := 9) rfl) (fun _ _ h => h) rfl dX9_load_198 ?_
              refine xj_iload_n C 1 dX9_load_201 rfl rfl ?_
              refine xj_lload_n C 2 dX9_load_202 rfl rfl ?_
              refine xj_bipush C (n := 9) (by decide) dX9_load_203 ?_
              refine xj_lshr C dX9_load_205 ?_
              refine xj_lconst C (v := 1) rfl dX9_load_206 ?_
              refine xj_land C dX9_load_207 ?_
              refine xj_lconst C (v := 1) rfl dX9_load_208 ?_
              refine xj_lcmp C dX9_load_209 ?_
              obtain ⟨r29, hRr29, hM⟩ := xbd hM
              have Kr29 : xJ l D k (xo X D k (some (.int (xi res.1))) (wY ad k res.2)) X 7 218 [(0, .ref (ad 24)), (1, .int (xi p1)), (2, .long p2)] [.int (xi r29), .int (xi p1), .ref (ad 2)] (wY ad k (xup (xup (xup S 5 p1 r25) 0 p1 ((p2 &&& (255 : Int64)).toInt32.toInt)) 1 p1 r22)) := by
                obtain ⟨g31, hM⟩ := xck_some hM
                refine xj_zast C 2 (xup (xup (xup S 5 p1 r25) 0 p1 ((p2 &&& (255 : Int64)).toInt32.toInt)) 1 p1 r22) 2 (eY_2 ad k (xup (xup (xup S 5 p1 r25) 0 p1 ((p2 &&& (255 : Int64)).toInt32.toInt)) 1 p1 r22)) (Nat.le_of_ble_eq_true rfl) g31 g28.1 (sY_2 ad k (xup (xup (xup S 5 p1 r25) 0 p1 ((p2 &&& (255 : Int64)).toInt32.toInt)) 1 p1 r22) p1 r29) dX9_load_218 ?_
                refine xj_iconst C dX9_load_219 ?_
                refine xj_istore C (L1 := [(6, .int (xi 0)), (0, .ref (ad 24)), (1, .int (xi p1)), (2, .long p2)]) dX9_load_220 (by decide) rfl ?_
                obtain ⟨r35, hLr35, hM⟩ := xbd hM
                refine xj_loc C [1, 2, 3, 0] (L1 := [(0, .ref (ad 24)), (1, .int (xi p1)), (2, .long p2), (6, .int (xi 0))]) rfl ?_
                refine j_X9_load_L222 C p1 p2 _ _ _ _ hLr35 ?_
                refine xj_iconst C dX9_load_259 ?_
                refine xj_istore C (L1 := [(6, .int (xi 0)), (0, .ref (ad 24)), (1, .int (xi p1)), (2, .long p2)]) dX9_load_260 (by decide) rfl ?_
                obtain ⟨r39, hLr39, hM⟩ := xbd hM
                refine xj_loc C [1, 2, 3, 0] (L1 := [(0, .ref (ad 24)), (1, .int (xi p1)), (2, .long p2), (6, .int (xi 0))]) rfl ?_
                refine j_X9_load_L262 C p1 p2 _ _ _ _ hLr39 ?_
                refine xj_iconst C dX9_load_301 ?_
                obtain rfl := Option.some.inj hM
                exact xj_zret (Or.inr rfl) C rfl dX9_load_302
              clear hM
              have hM := hRr29
              refine xj_if_ne C (tgt := 217) dX9_load_210 (by decide) (xr_lcmp _ _) (fun c30 => ?_) (fun c30 => ?_)
              · have hM := xif hM c30
                refine xj_iconst C dX9_load_217 ?_
                obtain rfl := Option.some.inj hM
                refine xj_loc C [0, 1, 2] (L1 := [(0, .ref (ad 24)), (1, .int (xi p1)), (2, .long p2)]) rfl ?_
                exact Kr29
              · have hM := xit hM c30
                refine xj_iconst C dX9_load_213 ?_
                refine xj_goto C (tgt := 218) dX9_load_214 (by decide) ?_
                obtain rfl := Option.some.inj hM
                refine xj_loc C [0, 1, 2] (L1 := [(0, .ref (ad 24)), (1, .int (xi p1)), (2, .long p2)]) rfl ?_
                exact Kr29
            clear hM
            have hM := hRr25
            obtain ⟨g26, hM⟩ := xck_some hM
            refine xj_icmp_ne C (tgt := 175) dX9_load_163 (by decide) ⟨g26.1, g26.2⟩ (fun c27 => ?_) (fun c27 => ?_)
            · have hM := xif hM c27
              refine xj_iconst C dX9_load_175 ?_
              obtain rfl := Option.some.inj hM
              refine xj_loc C [1, 2, 3, 0] (L1 := [(0, .ref (ad 24)), (1, .int (xi p1)), (2, .long p2), (5, .int (xi r22))]) rfl ?_
              exact Kr25
            · have hM := xit hM c27
              refine xj_aload_n C 1 dX9_load_166 rfl rfl ?_
              refine xj_get C (fun _ h => List.mem_cons_of_mem _ (List.mem_append_right _ h)) 24 (eY_24 ad k S) rfl 5 (by decide) (List.mem_of_getElem? (i := 5) rfl) (fun _ _ h => h) rfl dX9_load_167 ?_
              refine xj_iload_n C 2 dX9_load_170 rfl rfl ?_
              refine xj_iald C 5 S 5 (eY_5 ad k S) (Nat.le_of_ble_eq_true rfl) g24 dX9_load_171 ?_
              refine xj_goto C (tgt := 176) dX9_load_172 (by decide) ?_
              obtain rfl := Option.some.inj hM
              refine xj_loc C [1, 2, 3, 0] (L1 := [(0, .ref (ad 24)), (1, .int (xi p1)), (2, .long p2), (5, .int (xi r22))]) rfl ?_
              exact Kr25
          clear hM
          have hM := hRr22
          refine xj_if_ne C (tgt := 147) dX9_load_140 (by decide) (xr_lcmp _ _) (fun c23 => ?_) (fun c23 => ?_)
          · have hM := xif hM c23
            refine xj_iconst C dX9_load_147 ?_
            obtain rfl := Option.some.inj hM
            refine xj_loc C [0, 1, 2] (L1 := [(0, .ref (ad 24)), (1, .int (xi p1)), (2, .long p2)]) rfl ?_
            exact Kr22
          · have hM := xit hM c23
            refine xj_iconst C dX9_load_143 ?_
            refine xj_goto C (tgt := 148) dX9_load_144 (by decide) ?_
            obtain rfl := Option.some.inj hM
            refine xj_loc C [0, 1, 2] (L1 := [(0, .ref (ad 24)), (1, .int (xi p1)), (2, .long p2)]) rfl ?_
            exact Kr22
        · have hM := xit hM c21
          refine xj_iconst C dX9_load_130 ?_
          obtain rfl := Option.some.inj hM
          exact xj_zret (Or.inl rfl) C rfl dX9_load_131
      · have hM := xif hM c5
        refine xj_iconst C dX9_load_25 ?_
        obtain rfl := Option.some.inj hM
        exact xj_zret (Or.inl rfl) C rfl dX9_load_26
def rmX9_checkSum : Room := { frames := 2, cells := 0, slots := 0, locals := 46 }
theorem hv_X9_checkSum : yX9_checkSum.cls = RX9 ∧ yX9_checkSum.cls ≠ "java/lang/invoke/MethodHandle" ∧ yX9_checkSum.cls ≠ "java/lang/invoke/VarHandle" ∧ (parseMethodDescriptor yX9_checkSum.desc).map (fun d => d.parameters.length) = some 0 := by decide +kernel
def m_X9_checkSum_L20 (p2 : Int) (p3 : Int64) (S : xS) : Nat → Int → Int → Option (Int)
  | 0, _, _ => none
  | n + 1, v1, v5 => xck (xr v5) (if 48 ≤ v5 then some v1 else (some (xb_ixor (xb_iand (xb_ishr v1 15) 1) (((p3 >>> ((xi v5).toInt64 &&& 63)) &&& (1 : Int64)).toInt32.toInt))).bind (fun x6 => (xck (xr x6) (if x6 = 1 then some (xb_ixor (xb_iand (xb_ishl v1 1) 65535) 4129) else some (xb_iand (xb_ishl v1 1) 65535))).bind (fun r7 => m_X9_checkSum_L20 p2 p3 S n r7 (v5 + 1))))
def m_X9_checkSum_L5 (S : xS) : Nat → Int → Int → Option (Int)
  | 0, _, _ => none
  | n + 1, v1, v2 => xck (xr v2) (if 16 ≤ v2 then some v1 else (m_X9_bits v2 S).bind (fun r3 => (m_X9_checkSum_L20 v2 r3 S 2000 v1 0).bind (fun r10 => m_X9_checkSum_L5 S n r10 (v2 + 1))))
def m_X9_checkSum (S : xS) : Option (Int) := (m_X9_checkSum_L5 S 2000 65535 0).bind (fun r11 => some r11)
set_option maxRecDepth 100000 in
set_option maxHeartbeats 4000000 in
theorem j_X9_checkSum_L20 {l : Launch} {D : va_G} {k : Nat → ClassId} {ad : Nat → Nat} {o : xO} {X : xX} (C : xC D k o X cX9_checkSum 7 RX9 wsX9_checkSum (some .int) rmX9_checkSum) (p2 : Int) (p3 : Int64) (S : xS) : ∀ (n : Nat) (v1 : Int) (v5 : Int) (r : Int), m_X9_checkSum_L20 p2 p3 S n v1 v5 = some r → (xJ l D k o X 7 72 [(0, .ref (ad 24)), (1, .int (xi r)), (2, .int (xi p2))] [] (wY ad k S)) → xJ l D k o X 7 20 [(0, .ref (ad 24)), (1, .int (xi v1)), (2, .int (xi p2)), (3, .long p3), (5, .int (xi v5))] [] (wY ad k S) := by
  intro n
  induction n with
  | zero =>
    intro v1 v5 r hM
    cases hM
  | succ n ih =>
    intro v1 v5 r hM K
    unfold m_X9_checkSum_L20 at hM
    refine xj_iload C 4 dX9_checkSum_20 rfl ?_
    refine xj_bipush C (n := 48) (by decide) dX9_checkSum_22 ?_
    obtain ⟨g4, hM⟩ := xck_some hM
    refine xj_icmp_ge C (tgt := 72) dX9_checkSum_24 (by decide) ⟨g4, (by decide)⟩ (fun c5 => ?_) (fun c5 => ?_)
    · have hM := xit hM c5
      obtain rfl := Option.some.inj hM
      refine xj_loc C [0, 1, 2] (L1 := [(0, .ref (ad 24)), (1, .int (xi v1)), (2, .int (xi p2))]) rfl ?_
      exact K
    · have hM := xif hM c5
      refine xj_iload_n C 1 dX9_checkSum_27 rfl rfl ?_
      refine xj_bipush C (n := 15) (by decide) dX9_checkSum_28 ?_
      refine xj_ishr C dX9_checkSum_30 ?_
      refine xj_iconst C dX9_checkSum_31 ?_
      refine xj_iand C dX9_checkSum_32 ?_
      refine xj_lload_n C 3 dX9_checkSum_33 rfl rfl ?_
      refine xj_iload C 4 dX9_checkSum_34 rfl ?_
      refine xj_lshr C dX9_checkSum_36 ?_
      refine xj_lconst C (v := 1) rfl dX9_checkSum_37 ?_
      refine xj_land C dX9_checkSum_38 ?_
      refine xj_l2i C dX9_checkSum_39 ?_
      refine xj_ixor C dX9_checkSum_40 ?_
      obtain ⟨x6, hx_x6, hM⟩ := xbd hM
      rw [Option.some.inj hx_x6]
      refine xj_istore C (L1 := [(6, .int (xi x6)), (0, .ref (ad 24)), (1, .int (xi v1)), (2, .int (xi p2)), (3, .long p3), (5, .int (xi v5))]) dX9_checkSum_41 (by decide) rfl ?_
      refine xj_iload_n C 2 dX9_checkSum_43 rfl rfl ?_
      refine xj_iconst C dX9_checkSum_44 ?_
      refine xj_ishl C dX9_checkSum_45 ?_
      refine xj_ldc C (n := 65535) (List.mem_of_getElem? (i := 1) rfl) (by decide) dX9_checkSum_46 ?_
      refine xj_iand C dX9_checkSum_48 ?_
      refine xj_istore_n C (L1 := [(1, .int (xi (xb_iand (xb_ishl v1 1) 65535))), (6, .int (xi x6)), (0, .ref (ad 24)), (2, .int (xi p2)), (3, .long p3), (5, .int (xi v5))]) dX9_checkSum_49 rfl (by decide) rfl ?_
      refine xj_iload C 1 dX9_checkSum_50 rfl ?_
      refine xj_iconst C dX9_checkSum_52 ?_
      obtain ⟨r7, hRr7, hM⟩ := xbd hM
      have Kr7 : xJ l D k o X 7 65 [(0, .ref (ad 24)), (2, .int (xi p2)), (3, .long p3), (5, .int (xi v5))] [.int (xi r7)] (wY ad k S) := by
        refine xj_istore_n C (L1 := [(1, .int (xi r7)), (0, .ref (ad 24)), (2, .int (xi p2)), (3, .long p3), (5, .int (xi v5))]) dX9_checkSum_65 rfl (by decide) rfl ?_
        refine xj_iinc C 4 (L1 := [(5, .int (xi (v5 + 1))), (1, .int (xi r7)), (0, .ref (ad 24)), (2, .int (xi p2)), (3, .long p3)]) dX9_checkSum_66 rfl (by decide) rfl ?_
        refine xj_goto C (tgt := 20) dX9_checkSum_69 (by decide) ?_
        refine xj_loc C [2, 1, 3, 4, 0] (L1 := [(0, .ref (ad 24)), (1, .int (xi r7)), (2, .int (xi p2)), (3, .long p3), (5, .int (xi (v5 + 1)))]) rfl ?_
        exact ih _ _ _ hM K
      clear hM
      have hM := hRr7
      obtain ⟨g8, hM⟩ := xck_some hM
      refine xj_icmp_ne C (tgt := 64) dX9_checkSum_53 (by decide) ⟨g8, (by decide)⟩ (fun c9 => ?_) (fun c9 => ?_)
      · have hM := xif hM c9
        refine xj_iload_n C 0 dX9_checkSum_64 rfl rfl ?_
        obtain rfl := Option.some.inj hM
        refine xj_loc C [2, 3, 4, 5] (L1 := [(0, .ref (ad 24)), (2, .int (xi p2)), (3, .long p3), (5, .int (xi v5))]) rfl ?_
        exact Kr7
      · have hM := xit hM c9
        refine xj_iload_n C 0 dX9_checkSum_56 rfl rfl ?_
        refine xj_sipush C (n := 4129) (by decide) dX9_checkSum_57 ?_
        refine xj_ixor C dX9_checkSum_60 ?_
        refine xj_goto C (tgt := 65) dX9_checkSum_61 (by decide) ?_
        obtain rfl := Option.some.inj hM
        refine xj_loc C [2, 3, 4, 5] (L1 := [(0, .ref (ad 24)), (2, .int (xi p2)), (3, .long p3), (5, .int (xi v5))]) rfl ?_
        exact Kr7
set_option maxRecDepth 100000 in
set_option maxHeartbeats 4000000 in
theorem j_X9_checkSum_L5 {l : Launch} {D : va_G} {k : Nat → ClassId} {ad : Nat → Nat} {o : xO} {X : xX} (C : xC D k o X cX9_checkSum 7 RX9 wsX9_checkSum (some .int) rmX9_checkSum) (S : xS) : ∀ (n : Nat) (v1 : Int) (v2 : Int) (r : Int), m_X9_checkSum_L5 S n v1 v2 = some r → (xJ l D k o X 7 78 [(1, .int (xi r))] [] (wY ad k S)) → xJ l D k o X 7 5 [(0, .ref (ad 24)), (1, .int (xi v1)), (2, .int (xi v2))] [] (wY ad k S) := by
  intro n
  induction n with
  | zero =>
    intro v1 v2 r hM
    cases hM
  | succ n ih =>
    intro v1 v2 r hM K
    unfold m_X9_checkSum_L5 at hM
    refine xj_iload_n C 2 dX9_checkSum_5 rfl rfl ?_
    refine xj_bipush C (n := 16) (by decide) dX9_checkSum_6 ?_
    obtain ⟨g1, hM⟩ := xck_some hM
    refine xj_icmp_ge C (tgt := 78) dX9_checkSum_8 (by decide) ⟨g1, (by decide)⟩ (fun c2 => ?_) (fun c2 => ?_)
    · have hM := xit hM c2
      obtain rfl := Option.some.inj hM
      refine xj_loc C [1] (L1 := [(1, .int (xi v1))]) rfl ?_
      exact K
    · have hM := xif hM c2
      refine xj_aload_n C 0 dX9_checkSum_11 rfl rfl ?_
      refine xj_iload_n C 2 dX9_checkSum_12 rfl rfl ?_
      obtain ⟨r3, hRr3, hM⟩ := xbd hM
      refine xj_callV C [.int (xi v2)] [] 1 (c_X9_bits hRr3) gX9_checkSum_X9_bits rfl ⟨rfl, rfl⟩ hv_X9_bits ⟨Nat.le_of_ble_eq_true rfl, Nat.le_of_ble_eq_true rfl⟩ 24 (eY_24 ad k _) rfl rfl (Nat.le_of_ble_eq_true rfl) dX9_checkSum_13 ?_
      refine xj_lstore_n C (L1 := [(3, .long r3), (0, .ref (ad 24)), (1, .int (xi v1)), (2, .int (xi v2))]) dX9_checkSum_16 rfl (by decide) rfl ?_
      refine xj_iconst C dX9_checkSum_17 ?_
      refine xj_istore C (L1 := [(5, .int (xi 0)), (3, .long r3), (0, .ref (ad 24)), (1, .int (xi v1)), (2, .int (xi v2))]) dX9_checkSum_18 (by decide) rfl ?_
      obtain ⟨r10, hLr10, hM⟩ := xbd hM
      refine xj_loc C [2, 3, 4, 1, 0] (L1 := [(0, .ref (ad 24)), (1, .int (xi v1)), (2, .int (xi v2)), (3, .long r3), (5, .int (xi 0))]) rfl ?_
      refine j_X9_checkSum_L20 C v2 r3 S _ _ _ _ hLr10 ?_
      refine xj_iinc C 2 (L1 := [(2, .int (xi (v2 + 1))), (0, .ref (ad 24)), (1, .int (xi r10))]) dX9_checkSum_72 rfl (by decide) rfl ?_
      refine xj_goto C (tgt := 5) dX9_checkSum_75 (by decide) ?_
      refine xj_loc C [1, 2, 0] (L1 := [(0, .ref (ad 24)), (1, .int (xi r10)), (2, .int (xi (v2 + 1)))]) rfl ?_
      exact ih _ _ _ hM K
set_option maxRecDepth 100000 in
set_option maxHeartbeats 4000000 in
theorem c_X9_checkSum {l : Launch} {D : va_G} {k : Nat → ClassId} {ad : Nat → Nat} {S : xS} {res : Int} (hM : m_X9_checkSum S = some res) : xM l yX9_checkSum wsX9_checkSum rmX9_checkSum D k [.ref (ad 24)] (wY ad k S) (some (.int (xi res))) (wY ad k S) := by
  refine xM_of (ret := (some .int)) (by decide) rfl (Nat.le_of_ble_eq_true rfl) (fun X C => ?_)
  have C : xC D k (xo X D k (some (.int (xi res))) (wY ad k S)) X cX9_checkSum 7 RX9 wsX9_checkSum (some .int) rmX9_checkSum := C
  show xJ l D k (xo X D k (some (.int (xi res))) (wY ad k S)) X 7 0 [(0, .ref (ad 24))] [] (wY ad k S)
  unfold m_X9_checkSum at hM
  refine xj_ldc C (n := 65535) (List.mem_of_getElem? (i := 1) rfl) (by decide) dX9_checkSum_0 ?_
  refine xj_istore_n C (L1 := [(1, .int (xi 65535)), (0, .ref (ad 24))]) dX9_checkSum_2 rfl (by decide) rfl ?_
  refine xj_iconst C dX9_checkSum_3 ?_
  refine xj_istore_n C (L1 := [(2, .int (xi 0)), (1, .int (xi 65535)), (0, .ref (ad 24))]) dX9_checkSum_4 rfl (by decide) rfl ?_
  obtain ⟨r11, hLr11, hM⟩ := xbd hM
  refine xj_loc C [2, 1, 0] (L1 := [(0, .ref (ad 24)), (1, .int (xi 65535)), (2, .int (xi 0))]) rfl ?_
  refine j_X9_checkSum_L5 C S _ _ _ _ hLr11 ?_
  refine xj_iload_n C 0 dX9_checkSum_78 rfl rfl ?_
  obtain rfl := Option.some.inj hM
  exact xj_iret C rfl dX9_checkSum_79
def rmX9_comesFrom : Room := { frames := 3, cells := 0, slots := 0, locals := 70 }
theorem hv_X9_comesFrom : yX9_comesFrom.cls = RX9 ∧ yX9_comesFrom.cls ≠ "java/lang/invoke/MethodHandle" ∧ yX9_comesFrom.cls ≠ "java/lang/invoke/VarHandle" ∧ (parseMethodDescriptor yX9_comesFrom.desc).map (fun d => d.parameters.length) = some 1 := by decide +kernel
def m_X9_comesFrom_L2 (p1 : Int) : Nat → Int → xS → Option (xS)
  | 0, _, _ => none
  | n + 1, v2, S => xck (xr v2) (if 128 ≤ v2 then some S else xck ((0 ≤ v2 ∧ v2 < 128)) (m_X9_comesFrom_L2 p1 n (v2 + 1) (xup S 21 v2 0)))
def m_X9_comesFrom_L29 : Nat → Int → xS → Option ((Int × xS) ⊕ (Int × xS))
  | 0, _, _ => none
  | n + 1, v2, S => xck (xr v2) (if v2 < 0 then some (.inl (v2, S)) else (m_X9_channelOf v2).bind (fun r7 => xck (xr r7) (if r7 < 0 then some (.inl (v2, S)) else (m_X9_channelOf v2).bind (fun r10 => xck (0 ≤ r10 ∧ r10 < 128) (xck (xr (S 21 r10)) (if (S 21 r10) = 0 then xck ((0 ≤ r10 ∧ r10 < 128)) ((m_X9_behindChannel r10 (S 4 r10)).bind (fun r15 => m_X9_comesFrom_L29 n r15 (xup (xup S 21 r10 1) 53 0 ((S 53 0) + 1)))) else some (.inr ((-2), S))))))))
def m_X9_comesFrom (p1 : Int) (S : xS) : Option (Int × xS) := (m_X9_comesFrom_L2 p1 2000 0 S).bind (fun r4 => (m_X9_comesFrom_L29 2000 p1 (xup r4 53 0 0)).bind (fun r16 => match r16 with | .inl t17 => xck (xr t17.1) (if 0 ≤ t17.1 then (if t17.1 < 144 then xck (0 ≤ t17.1 ∧ t17.1 ≤ 2147483647) (some ((t17.1 / 9), t17.2)) else some ((t17.1 - 128), t17.2)) else some ((-1), t17.2)) | .inr y18 => some y18))
set_option maxRecDepth 100000 in
set_option maxHeartbeats 4000000 in
theorem j_X9_comesFrom_L2 {l : Launch} {D : va_G} {k : Nat → ClassId} {ad : Nat → Nat} {o : xO} {X : xX} (C : xC D k o X cX9_comesFrom 4 RX9 wsX9_comesFrom (some .int) rmX9_comesFrom) (p1 : Int) : ∀ (n : Nat) (v2 : Int) (S : xS) (r : xS), m_X9_comesFrom_L2 p1 n v2 S = some r → (xJ l D k o X 4 22 [(0, .ref (ad 24)), (1, .int (xi p1))] [] (wY ad k r)) → xJ l D k o X 4 2 [(0, .ref (ad 24)), (1, .int (xi p1)), (2, .int (xi v2))] [] (wY ad k S) := by
  intro n
  induction n with
  | zero =>
    intro v2 S r hM
    cases hM
  | succ n ih =>
    intro v2 S r hM K
    unfold m_X9_comesFrom_L2 at hM
    refine xj_iload_n C 2 dX9_comesFrom_2 rfl rfl ?_
    refine xj_sipush C (n := 128) (by decide) dX9_comesFrom_3 ?_
    obtain ⟨g1, hM⟩ := xck_some hM
    refine xj_icmp_ge C (tgt := 22) dX9_comesFrom_6 (by decide) ⟨g1, (by decide)⟩ (fun c2 => ?_) (fun c2 => ?_)
    · have hM := xit hM c2
      obtain rfl := Option.some.inj hM
      refine xj_loc C [0, 1] (L1 := [(0, .ref (ad 24)), (1, .int (xi p1))]) rfl ?_
      exact K
    · have hM := xif hM c2
      refine xj_aload_n C 0 dX9_comesFrom_9 rfl rfl ?_
      refine xj_get C (fun _ h => List.mem_cons_of_mem _ (List.mem_append_right _ h)) 24 (eY_24 ad k S) rfl 24 (by decide) (List.mem_of_getElem? (i := 1) rfl) (fun _ _ h => h) rfl dX9_comesFrom_10 ?_
      refine xj_iload_n C 2 dX9_comesFrom_13 rfl rfl ?_
      refine xj_iconst C dX9_comesFrom_14 ?_
      obtain ⟨g3, hM⟩ := xck_some hM
      refine xj_zast C 21 S 21 (eY_21 ad k S) (Nat.le_of_ble_eq_true rfl) (Or.inl rfl) g3 (sY_21 ad k S v2 0) dX9_comesFrom_15 ?_
      refine xj_iinc C 2 (L1 := [(2, .int (xi (v2 + 1))), (0, .ref (ad 24)), (1, .int (xi p1))]) dX9_comesFrom_16 rfl (by decide) rfl ?_
      refine xj_goto C (tgt := 2) dX9_comesFrom_19 (by decide) ?_
      refine xj_loc C [1, 2, 0] (L1 := [(0, .ref (ad 24)), (1, .int (xi p1)), (2, .int (xi (v2 + 1)))]) rfl ?_
      exact ih _ _ _ hM K
set_option maxRecDepth 100000 in
set_option maxHeartbeats 4000000 in
theorem j_X9_comesFrom_L29 {l : Launch} {D : va_G} {k : Nat → ClassId} {ad : Nat → Nat} {o : xO} {X : xX} (C : xC D k o X cX9_comesFrom 4 RX9 wsX9_comesFrom (some .int) rmX9_comesFrom) : ∀ (n : Nat) (v2 : Int) (S : xS) (r : (Int × xS) ⊕ (Int × xS)), m_X9_comesFrom_L29 n v2 S = some r → (∀ t, r = .inl t → xJ l D k o X 4 88 [(2, .int (xi t.1))] [] (wY ad k t.2)) → (∀ x, r = .inr x → o = (xo X D k (some (.int (xi x.1))) (wY ad k x.2))) → xJ l D k o X 4 29 [(0, .ref (ad 24)), (2, .int (xi v2))] [] (wY ad k S) := by
  intro n
  induction n with
  | zero =>
    intro v2 S r hM
    cases hM
  | succ n ih =>
    intro v2 S r hM K K2
    unfold m_X9_comesFrom_L29 at hM
    refine xj_iload_n C 1 dX9_comesFrom_29 rfl rfl ?_
    obtain ⟨g5, hM⟩ := xck_some hM
    refine xj_if_lt C (tgt := 88) dX9_comesFrom_30 (by decide) g5 (fun c6 => ?_) (fun c6 => ?_)
    · have hM := xit hM c6
      obtain rfl := Option.some.inj hM
      refine xj_loc C [1] (L1 := [(2, .int (xi v2))]) rfl ?_
      exact K _ rfl
    · have hM := xif hM c6
      refine xj_iload_n C 1 dX9_comesFrom_33 rfl rfl ?_
      obtain ⟨r7, hRr7, hM⟩ := xbd hM
      refine xj_callS C [.int (xi v2)] [] 1 (c_X9_channelOf hRr7) gX9_comesFrom_X9_channelOf rfl ⟨rfl, rfl⟩ hv_X9_channelOf ⟨Nat.le_of_ble_eq_true rfl, Nat.le_of_ble_eq_true rfl⟩ rfl (Nat.le_of_ble_eq_true rfl) dX9_comesFrom_34 ?_
      obtain ⟨g8, hM⟩ := xck_some hM
      refine xj_if_lt C (tgt := 88) dX9_comesFrom_37 (by decide) g8 (fun c9 => ?_) (fun c9 => ?_)
      · have hM := xit hM c9
        obtain rfl := Option.some.inj hM
        refine xj_loc C [1] (L1 := [(2, .int (xi v2))]) rfl ?_
        exact K _ rfl
      · have hM := xif hM c9
        refine xj_iload_n C 1 dX9_comesFrom_40 rfl rfl ?_
        obtain ⟨r10, hRr10, hM⟩ := xbd hM
        refine xj_callS C [.int (xi v2)] [] 1 (c_X9_channelOf hRr10) gX9_comesFrom_X9_channelOf rfl ⟨rfl, rfl⟩ hv_X9_channelOf ⟨Nat.le_of_ble_eq_true rfl, Nat.le_of_ble_eq_true rfl⟩ rfl (Nat.le_of_ble_eq_true rfl) dX9_comesFrom_41 ?_
        refine xj_istore_n C (L1 := [(3, .int (xi r10)), (0, .ref (ad 24)), (2, .int (xi v2))]) dX9_comesFrom_44 rfl (by decide) rfl ?_
        refine xj_aload_n C 1 dX9_comesFrom_45 rfl rfl ?_
        refine xj_get C (fun _ h => List.mem_cons_of_mem _ (List.mem_append_right _ h)) 24 (eY_24 ad k S) rfl 24 (by decide) (List.mem_of_getElem? (i := 1) rfl) (fun _ _ h => h) rfl dX9_comesFrom_46 ?_
        refine xj_iload_n C 0 dX9_comesFrom_49 rfl rfl ?_
        obtain ⟨g11, hM⟩ := xck_some hM
        refine xj_zald C 21 S 21 (eY_21 ad k S) (Nat.le_of_ble_eq_true rfl) g11 dX9_comesFrom_50 ?_
        obtain ⟨g12, hM⟩ := xck_some hM
        refine xj_if_eq C (tgt := 57) dX9_comesFrom_51 (by decide) g12 (fun c13 => ?_) (fun c13 => ?_)
        · have hM := xit hM c13
          refine xj_aload_n C 1 dX9_comesFrom_57 rfl rfl ?_
          refine xj_get C (fun _ h => List.mem_cons_of_mem _ (List.mem_append_right _ h)) 24 (eY_24 ad k S) rfl 24 (by decide) (List.mem_of_getElem? (i := 1) rfl) (fun _ _ h => h) rfl dX9_comesFrom_58 ?_
          refine xj_iload_n C 0 dX9_comesFrom_61 rfl rfl ?_
          refine xj_iconst C dX9_comesFrom_62 ?_
          obtain ⟨g14, hM⟩ := xck_some hM
          refine xj_zast C 21 S 21 (eY_21 ad k S) (Nat.le_of_ble_eq_true rfl) (Or.inr rfl) g14 (sY_21 ad k S r10 1) dX9_comesFrom_63 ?_
          refine xj_aload_n C 1 dX9_comesFrom_64 rfl rfl ?_
          refine xj_dup C rfl dX9_comesFrom_65 ?_
          refine xj_get C (v := .int (xi (S 53 0))) (fun _ h => List.mem_cons_of_mem _ (List.mem_append_right _ h)) 24 (eY_24 ad k (xup S 21 r10 1)) rfl 25 (by decide) (List.mem_of_getElem? (i := 2) rfl) (fun _ _ h => h) rfl dX9_comesFrom_66 ?_
          refine xj_iconst C dX9_comesFrom_69 ?_
          refine xj_iadd C dX9_comesFrom_70 ?_
          refine xj_put C (fun _ h => List.mem_cons_of_mem _ (List.mem_append_right _ h)) tyX9 tyX9_ok nmX9 24 (eY_24 ad k (xup S 21 r10 1)) rfl 25 (by decide) (List.mem_of_getElem? (i := 2) rfl) (fun _ _ h => h) rfl (tyX9_ok 25 (by decide)) (Nat.le_of_ble_eq_true rfl) (sY_53 ad k (xup S 21 r10 1) ((S 53 0) + 1)) dX9_comesFrom_71 ?_
          refine xj_iload_n C 0 dX9_comesFrom_74 rfl rfl ?_
          refine xj_aload_n C 1 dX9_comesFrom_75 rfl rfl ?_
          refine xj_get C (fun _ h => List.mem_cons_of_mem _ (List.mem_append_right _ h)) 24 (eY_24 ad k (xup (xup S 21 r10 1) 53 0 ((S 53 0) + 1))) rfl 4 (by decide) (List.mem_of_getElem? (i := 3) rfl) (fun _ _ h => h) rfl dX9_comesFrom_76 ?_
          refine xj_iload_n C 0 dX9_comesFrom_79 rfl rfl ?_
          refine xj_iald C 4 S 4 (eY_4 ad k (xup (xup S 21 r10 1) 53 0 ((S 53 0) + 1))) (Nat.le_of_ble_eq_true rfl) g11 dX9_comesFrom_80 ?_
          obtain ⟨r15, hRr15, hM⟩ := xbd hM
          refine xj_callS C [.int (xi r10), .int (xi (S 4 r10))] [] 2 (c_X9_behindChannel hRr15) gX9_comesFrom_X9_behindChannel rfl ⟨rfl, rfl⟩ hv_X9_behindChannel ⟨Nat.le_of_ble_eq_true rfl, Nat.le_of_ble_eq_true rfl⟩ rfl (Nat.le_of_ble_eq_true rfl) dX9_comesFrom_81 ?_
          refine xj_istore_n C (L1 := [(2, .int (xi r15)), (3, .int (xi r10)), (0, .ref (ad 24))]) dX9_comesFrom_84 rfl (by decide) rfl ?_
          refine xj_goto C (tgt := 29) dX9_comesFrom_85 (by decide) ?_
          refine xj_loc C [2, 0] (L1 := [(0, .ref (ad 24)), (2, .int (xi r15))]) rfl ?_
          exact ih _ _ _ hM K K2
        · have hM := xif hM c13
          refine xj_bipush C (n := (-2)) (by decide) dX9_comesFrom_54 ?_
          obtain rfl := Option.some.inj hM
          obtain rfl := K2 _ rfl
          exact xj_iret C rfl dX9_comesFrom_56
set_option maxRecDepth 100000 in
set_option maxHeartbeats 4000000 in
theorem c_X9_comesFrom {l : Launch} {D : va_G} {k : Nat → ClassId} {ad : Nat → Nat} {S : xS} {p1 : Int} {res : Int × xS} (hM : m_X9_comesFrom p1 S = some res) : xM l yX9_comesFrom wsX9_comesFrom rmX9_comesFrom D k [.ref (ad 24), .int (xi p1)] (wY ad k S) (some (.int (xi res.1))) (wY ad k res.2) := by
  refine xM_of (ret := (some .int)) (by decide) rfl (Nat.le_of_ble_eq_true rfl) (fun X C => ?_)
  have C : xC D k (xo X D k (some (.int (xi res.1))) (wY ad k res.2)) X cX9_comesFrom 4 RX9 wsX9_comesFrom (some .int) rmX9_comesFrom := C
  show xJ l D k (xo X D k (some (.int (xi res.1))) (wY ad k res.2)) X 4 0 [(0, .ref (ad 24)), (1, .int (xi p1))] [] (wY ad k S)
  unfold m_X9_comesFrom at hM
  refine xj_iconst C dX9_comesFrom_0 ?_
  refine xj_istore_n C (L1 := [(2, .int (xi 0)), (0, .ref (ad 24)), (1, .int (xi p1))]) dX9_comesFrom_1 rfl (by decide) rfl ?_
  obtain ⟨r4, hLr4, hM⟩ := xbd hM
  refine xj_loc C [1, 2, 0] (L1 := [(0, .ref (ad 24)), (1, .int (xi p1)), (2, .int (xi 0))]) rfl ?_
  refine j_X9_comesFrom_L2 C p1 _ _ _ _ hLr4 ?_
  refine xj_aload_n C 0 dX9_comesFrom_22 rfl rfl ?_
  refine xj_iconst C dX9_comesFrom_23 ?_
  refine xj_put C (fun _ h => List.mem_cons_of_mem _ (List.mem_append_right _ h)) tyX9 tyX9_ok nmX9 24 (eY_24 ad k r4) rfl 25 (by decide) (List.mem_of_getElem? (i := 2) rfl) (fun _ _ h => h) rfl (tyX9_ok 25 (by decide)) (Nat.le_of_ble_eq_true rfl) (sY_53 ad k r4 0) dX9_comesFrom_24 ?_
  refine xj_iload_n C 1 dX9_comesFrom_27 rfl rfl ?_
  refine xj_istore_n C (L1 := [(2, .int (xi p1)), (0, .ref (ad 24)), (1, .int (xi p1))]) dX9_comesFrom_28 rfl (by decide) rfl ?_
  obtain ⟨r16, hLr16, hM⟩ := xbd hM
  refine xj_loc C [1, 0] (L1 := [(0, .ref (ad 24)), (2, .int (xi p1))]) rfl ?_
  rcases r16 with t17 | y18
  · refine j_X9_comesFrom_L29 C _ _ _ _ hLr16 (fun tz ez => ?_) (fun tz ez => by cases ez)
    obtain rfl := Sum.inl.inj ez
    try dsimp only at hM
    refine xj_iload_n C 0 dX9_comesFrom_88 rfl rfl ?_
    obtain ⟨g19, hM⟩ := xck_some hM
    refine xj_if_ge C (tgt := 96) dX9_comesFrom_89 (by decide) g19 (fun c20 => ?_) (fun c20 => ?_)
    · have hM := xit hM c20
      refine xj_iload_n C 0 dX9_comesFrom_96 rfl rfl ?_
      refine xj_sipush C (n := 144) (by decide) dX9_comesFrom_97 ?_
      refine xj_icmp_lt C (tgt := 111) dX9_comesFrom_100 (by decide) ⟨g19, (by decide)⟩ (fun c21 => ?_) (fun c21 => ?_)
      · have hM := xit hM c21
        refine xj_iload_n C 0 dX9_comesFrom_111 rfl rfl ?_
        refine xj_bipush C (n := 9) (by decide) dX9_comesFrom_112 ?_
        obtain ⟨g22, hM⟩ := xck_some hM
        refine xj_idiv C ⟨g22.1, g22.2, by decide, by decide⟩ dX9_comesFrom_114 ?_
        obtain rfl := Option.some.inj hM
        exact xj_iret C rfl dX9_comesFrom_115
      · have hM := xif hM c21
        refine xj_iload_n C 0 dX9_comesFrom_103 rfl rfl ?_
        refine xj_sipush C (n := 128) (by decide) dX9_comesFrom_104 ?_
        refine xj_isub C dX9_comesFrom_107 ?_
        refine xj_goto C (tgt := 115) dX9_comesFrom_108 (by decide) ?_
        obtain rfl := Option.some.inj hM
        exact xj_iret C rfl dX9_comesFrom_115
    · have hM := xif hM c20
      refine xj_iconst C dX9_comesFrom_92 ?_
      refine xj_goto C (tgt := 115) dX9_comesFrom_93 (by decide) ?_
      obtain rfl := Option.some.inj hM
      exact xj_iret C rfl dX9_comesFrom_115
  · refine j_X9_comesFrom_L29 C _ _ _ _ hLr16 (fun tz ez => by cases ez) (fun tz ez => ?_)
    obtain rfl := Sum.inr.inj ez
    try dsimp only at hM
    obtain rfl := Option.some.inj hM
    rfl
