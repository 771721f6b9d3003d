/-! mirrors and contracts (by program: wip/whole/gen.py, mkparts.py) -/
def rmX5_channelSetting : Room := { frames := 0, cells := 0, slots := 0, locals := 0 }
theorem hv_X5_channelSetting : yX5_channelSetting.cls ≠ "java/lang/invoke/MethodHandle" ∧ yX5_channelSetting.cls ≠ "java/lang/invoke/VarHandle" ∧ (parseMethodDescriptor yX5_channelSetting.desc).map (fun d => d.parameters.length) = some 2 := by decide +kernel
def m_X5_channelSetting (p0 : Int64) (p2 : Int) : Option (Int) := some (xb_iand ((p0 >>> ((xi (22 + (p2 * 3))).toInt64 &&& 63)).toInt32.toInt) 7)
set_option maxRecDepth 100000 in
set_option maxHeartbeats 4000000 in
theorem c_X5_channelSetting {l : Launch} {D : va_G} {k : Nat → ClassId} {w : va_W} {p0 : Int64} {p2 : Int} {res : Int} (hM : m_X5_channelSetting p0 p2 = some res) : xM l yX5_channelSetting wsX5_channelSetting rmX5_channelSetting D k [.long p0, .int (xi p2)] w (some (.int (xi res))) w := by
  refine xM_of (ret := (some .int)) (by decide) rfl (Nat.le_of_ble_eq_true rfl) (fun X C => ?_)
  have C : xC D k (xo X D k (some (.int (xi res))) w) X cX5_channelSetting 3 RX5 wsX5_channelSetting (some .int) rmX5_channelSetting := C
  show xJ l D k (xo X D k (some (.int (xi res))) w) X 3 0 [(0, .long p0), (2, .int (xi p2))] [] w
  unfold m_X5_channelSetting at hM
  refine xj_lload_n C 0 dX5_channelSetting_0 rfl rfl ?_
  refine xj_bipush C (n := 22) (by decide) dX5_channelSetting_1 ?_
  refine xj_iload_n C 1 dX5_channelSetting_3 rfl rfl ?_
  refine xj_iconst C dX5_channelSetting_4 ?_
  refine xj_imul C dX5_channelSetting_5 ?_
  refine xj_iadd C dX5_channelSetting_6 ?_
  refine xj_lshr C dX5_channelSetting_7 ?_
  refine xj_l2i C dX5_channelSetting_8 ?_
  refine xj_bipush C (n := 7) (by decide) dX5_channelSetting_9 ?_
  refine xj_iand C dX5_channelSetting_11 ?_
  obtain rfl := Option.some.inj hM
  exact xj_iret C rfl dX5_channelSetting_12
def rmX5_pinSetting : Room := { frames := 0, cells := 0, slots := 0, locals := 0 }
theorem hv_X5_pinSetting : yX5_pinSetting.cls ≠ "java/lang/invoke/MethodHandle" ∧ yX5_pinSetting.cls ≠ "java/lang/invoke/VarHandle" ∧ (parseMethodDescriptor yX5_pinSetting.desc).map (fun d => d.parameters.length) = some 2 := by decide +kernel
def m_X5_pinSetting (p0 : Int64) (p2 : Int) : Option (Int) := some (xb_iand ((p0 >>> ((xi (10 + (p2 * 4))).toInt64 &&& 63)).toInt32.toInt) 15)
set_option maxRecDepth 100000 in
set_option maxHeartbeats 4000000 in
theorem c_X5_pinSetting {l : Launch} {D : va_G} {k : Nat → ClassId} {w : va_W} {p0 : Int64} {p2 : Int} {res : Int} (hM : m_X5_pinSetting p0 p2 = some res) : xM l yX5_pinSetting wsX5_pinSetting rmX5_pinSetting D k [.long p0, .int (xi p2)] w (some (.int (xi res))) w := by
  refine xM_of (ret := (some .int)) (by decide) rfl (Nat.le_of_ble_eq_true rfl) (fun X C => ?_)
  have C : xC D k (xo X D k (some (.int (xi res))) w) X cX5_pinSetting 3 RX5 wsX5_pinSetting (some .int) rmX5_pinSetting := C
  show xJ l D k (xo X D k (some (.int (xi res))) w) X 3 0 [(0, .long p0), (2, .int (xi p2))] [] w
  unfold m_X5_pinSetting at hM
  refine xj_lload_n C 0 dX5_pinSetting_0 rfl rfl ?_
  refine xj_bipush C (n := 10) (by decide) dX5_pinSetting_1 ?_
  refine xj_iload_n C 1 dX5_pinSetting_3 rfl rfl ?_
  refine xj_iconst C dX5_pinSetting_4 ?_
  refine xj_imul C dX5_pinSetting_5 ?_
  refine xj_iadd C dX5_pinSetting_6 ?_
  refine xj_lshr C dX5_pinSetting_7 ?_
  refine xj_l2i C dX5_pinSetting_8 ?_
  refine xj_bipush C (n := 15) (by decide) dX5_pinSetting_9 ?_
  refine xj_iand C dX5_pinSetting_11 ?_
  obtain rfl := Option.some.inj hM
  exact xj_iret C rfl dX5_pinSetting_12
def rmX5_areLegal : Room := { frames := 1, cells := 0, slots := 0, locals := 22 }
theorem hv_X5_areLegal : yX5_areLegal.cls ≠ "java/lang/invoke/MethodHandle" ∧ yX5_areLegal.cls ≠ "java/lang/invoke/VarHandle" ∧ (parseMethodDescriptor yX5_areLegal.desc).map (fun d => d.parameters.length) = some 1 := by decide +kernel
def m_X5_areLegal_L18 (p0 : Int64) : Nat → Int → Option ((Unit) ⊕ (Int))
  | 0, _ => none
  | n + 1, v2 => xck (xr v2) (if 3 ≤ v2 then some (.inl ()) else (m_X5_pinSetting p0 v2).bind (fun r5 => xck (xr r5) (if r5 < 10 then m_X5_areLegal_L18 p0 n (v2 + 1) else some (.inr 0))))
def m_X5_areLegal_L43 (p0 : Int64) : Nat → Int → Option ((Unit) ⊕ (Int))
  | 0, _ => none
  | n + 1, v2 => xck (xr v2) (if 8 ≤ v2 then some (.inl ()) else (m_X5_channelSetting p0 v2).bind (fun r13 => xck (xr r13) (if r13 < 5 then m_X5_areLegal_L43 p0 n (v2 + 1) else some (.inr 0))))
def m_X5_areLegal (p0 : Int64) : Option (Int) := (if (xb_lcmp p0 (0 : Int64)) < 0 then some 0 else (if (xb_lcmp p0 (70368744177664 : Int64)) < 0 then (m_X5_areLegal_L18 p0 2000 0).bind (fun r8 => match r8 with | .inl t9 => (m_X5_areLegal_L43 p0 2000 0).bind (fun r16 => match r16 with | .inl t17 => some 1 | .inr y18 => some y18) | .inr y10 => some y10) else some 0))
set_option maxRecDepth 100000 in
set_option maxHeartbeats 4000000 in
theorem j_X5_areLegal_L18 {l : Launch} {D : va_G} {k : Nat → ClassId} {w : va_W} {o : xO} {X : xX} (C : xC D k o X cX5_areLegal 3 RX5 wsX5_areLegal (some .boolean) rmX5_areLegal) (p0 : Int64) : ∀ (n : Nat) (v2 : Int) (r : (Unit) ⊕ (Int)), m_X5_areLegal_L18 p0 n v2 = some r → (∀ t, r = .inl t → xJ l D k o X 3 41 [(0, .long p0)] [] w) → (∀ x, r = .inr x → o = (xo X D k (some (.int (xi x))) w)) → xJ l D k o X 3 18 [(0, .long p0), (2, .int (xi v2))] [] w := by
  intro n
  induction n with
  | zero =>
    intro v2 r hM
    cases hM
  | succ n ih =>
    intro v2 r hM K K2
    unfold m_X5_areLegal_L18 at hM
    refine xj_iload_n C 1 dX5_areLegal_18 rfl rfl ?_
    refine xj_iconst C dX5_areLegal_19 ?_
    obtain ⟨g3, hM⟩ := xck_some hM
    refine xj_icmp_ge C (tgt := 41) dX5_areLegal_20 (by decide) ⟨g3, (by decide)⟩ (fun c4 => ?_) (fun c4 => ?_)
    · have hM := xit hM c4
      obtain rfl := Option.some.inj hM
      refine xj_loc C [0] (L1 := [(0, .long p0)]) rfl ?_
      exact K _ rfl
    · have hM := xif hM c4
      refine xj_lload_n C 0 dX5_areLegal_23 rfl rfl ?_
      refine xj_iload_n C 1 dX5_areLegal_24 rfl rfl ?_
      obtain ⟨r5, hRr5, hM⟩ := xbd hM
      refine xj_callS C [.long p0, .int (xi v2)] [] 2 (c_X5_pinSetting hRr5) gX5_areLegal_X5_pinSetting rfl ⟨rfl, rfl⟩ hv_X5_pinSetting ⟨Nat.le_of_ble_eq_true rfl, Nat.le_of_ble_eq_true rfl⟩ rfl (Nat.le_of_ble_eq_true rfl) dX5_areLegal_25 ?_
      refine xj_bipush C (n := 10) (by decide) dX5_areLegal_28 ?_
      obtain ⟨g6, hM⟩ := xck_some hM
      refine xj_icmp_lt C (tgt := 35) dX5_areLegal_30 (by decide) ⟨g6, (by decide)⟩ (fun c7 => ?_) (fun c7 => ?_)
      · have hM := xit hM c7
        refine xj_iinc C 1 (L1 := [(2, .int (xi (v2 + 1))), (0, .long p0)]) dX5_areLegal_35 rfl (by decide) rfl ?_
        refine xj_goto C (tgt := 18) dX5_areLegal_38 (by decide) ?_
        refine xj_loc C [1, 0] (L1 := [(0, .long p0), (2, .int (xi (v2 + 1)))]) rfl ?_
        exact ih _ _ hM K K2
      · have hM := xif hM c7
        refine xj_iconst C dX5_areLegal_33 ?_
        obtain rfl := Option.some.inj hM
        obtain rfl := K2 _ rfl
        exact xj_zret (Or.inl rfl) C rfl dX5_areLegal_34
set_option maxRecDepth 100000 in
set_option maxHeartbeats 4000000 in
theorem j_X5_areLegal_L43 {l : Launch} {D : va_G} {k : Nat → ClassId} {w : va_W} {o : xO} {X : xX} (C : xC D k o X cX5_areLegal 3 RX5 wsX5_areLegal (some .boolean) rmX5_areLegal) (p0 : Int64) : ∀ (n : Nat) (v2 : Int) (r : (Unit) ⊕ (Int)), m_X5_areLegal_L43 p0 n v2 = some r → (∀ t, r = .inl t → xJ l D k o X 3 66 [] [] w) → (∀ x, r = .inr x → o = (xo X D k (some (.int (xi x))) w)) → xJ l D k o X 3 43 [(0, .long p0), (2, .int (xi v2))] [] w := by
  intro n
  induction n with
  | zero =>
    intro v2 r hM
    cases hM
  | succ n ih =>
    intro v2 r hM K K2
    unfold m_X5_areLegal_L43 at hM
    refine xj_iload_n C 1 dX5_areLegal_43 rfl rfl ?_
    refine xj_bipush C (n := 8) (by decide) dX5_areLegal_44 ?_
    obtain ⟨g11, hM⟩ := xck_some hM
    refine xj_icmp_ge C (tgt := 66) dX5_areLegal_46 (by decide) ⟨g11, (by decide)⟩ (fun c12 => ?_) (fun c12 => ?_)
    · have hM := xit hM c12
      obtain rfl := Option.some.inj hM
      refine xj_loc C [] (L1 := []) rfl ?_
      exact K _ rfl
    · have hM := xif hM c12
      refine xj_lload_n C 0 dX5_areLegal_49 rfl rfl ?_
      refine xj_iload_n C 1 dX5_areLegal_50 rfl rfl ?_
      obtain ⟨r13, hRr13, hM⟩ := xbd hM
      refine xj_callS C [.long p0, .int (xi v2)] [] 2 (c_X5_channelSetting hRr13) gX5_areLegal_X5_channelSetting rfl ⟨rfl, rfl⟩ hv_X5_channelSetting ⟨Nat.le_of_ble_eq_true rfl, Nat.le_of_ble_eq_true rfl⟩ rfl (Nat.le_of_ble_eq_true rfl) dX5_areLegal_51 ?_
      refine xj_iconst C dX5_areLegal_54 ?_
      obtain ⟨g14, hM⟩ := xck_some hM
      refine xj_icmp_lt C (tgt := 60) dX5_areLegal_55 (by decide) ⟨g14, (by decide)⟩ (fun c15 => ?_) (fun c15 => ?_)
      · have hM := xit hM c15
        refine xj_iinc C 1 (L1 := [(2, .int (xi (v2 + 1))), (0, .long p0)]) dX5_areLegal_60 rfl (by decide) rfl ?_
        refine xj_goto C (tgt := 43) dX5_areLegal_63 (by decide) ?_
        refine xj_loc C [1, 0] (L1 := [(0, .long p0), (2, .int (xi (v2 + 1)))]) rfl ?_
        exact ih _ _ hM K K2
      · have hM := xif hM c15
        refine xj_iconst C dX5_areLegal_58 ?_
        obtain rfl := Option.some.inj hM
        obtain rfl := K2 _ rfl
        exact xj_zret (Or.inl rfl) C rfl dX5_areLegal_59
set_option maxRecDepth 100000 in
set_option maxHeartbeats 4000000 in
theorem c_X5_areLegal {l : Launch} {D : va_G} {k : Nat → ClassId} {w : va_W} {p0 : Int64} {res : Int} (hM : m_X5_areLegal p0 = some res) : xM l yX5_areLegal wsX5_areLegal rmX5_areLegal D k [.long p0] w (some (.int (xi res))) w := by
  refine xM_of (ret := (some .boolean)) (by decide) rfl (Nat.le_of_ble_eq_true rfl) (fun X C => ?_)
  have C : xC D k (xo X D k (some (.int (xi res))) w) X cX5_areLegal 3 RX5 wsX5_areLegal (some .boolean) rmX5_areLegal := C
  show xJ l D k (xo X D k (some (.int (xi res))) w) X 3 0 [(0, .long p0)] [] w
  unfold m_X5_areLegal at hM
  refine xj_lload_n C 0 dX5_areLegal_0 rfl rfl ?_
  refine xj_lconst C (v := 0) rfl dX5_areLegal_1 ?_
  refine xj_lcmp C dX5_areLegal_2 ?_
  refine xj_if_lt C (tgt := 14) dX5_areLegal_3 (by decide) (xr_lcmp _ _) (fun c1 => ?_) (fun c1 => ?_)
  · have hM := xit hM c1
    refine xj_iconst C dX5_areLegal_14 ?_
    obtain rfl := Option.some.inj hM
    exact xj_zret (Or.inl rfl) C rfl dX5_areLegal_15
  · have hM := xif hM c1
    refine xj_lload_n C 0 dX5_areLegal_6 rfl rfl ?_
    refine xj_ldc2 C (List.mem_of_getElem? (i := 1) rfl) dX5_areLegal_7 ?_
    refine xj_lcmp C dX5_areLegal_10 ?_
    refine xj_if_lt C (tgt := 16) dX5_areLegal_11 (by decide) (xr_lcmp _ _) (fun c2 => ?_) (fun c2 => ?_)
    · have hM := xit hM c2
      refine xj_iconst C dX5_areLegal_16 ?_
      refine xj_istore_n C (L1 := [(2, .int (xi 0)), (0, .long p0)]) dX5_areLegal_17 rfl (by decide) rfl ?_
      obtain ⟨r8, hLr8, hM⟩ := xbd hM
      refine xj_loc C [1, 0] (L1 := [(0, .long p0), (2, .int (xi 0))]) rfl ?_
      rcases r8 with t9 | y10
      · refine j_X5_areLegal_L18 C p0 _ _ _ hLr8 (fun tz ez => ?_) (fun tz ez => by cases ez)
        obtain rfl := Sum.inl.inj ez
        try dsimp only at hM
        refine xj_iconst C dX5_areLegal_41 ?_
        refine xj_istore_n C (L1 := [(2, .int (xi 0)), (0, .long p0)]) dX5_areLegal_42 rfl (by decide) rfl ?_
        obtain ⟨r16, hLr16, hM⟩ := xbd hM
        refine xj_loc C [1, 0] (L1 := [(0, .long p0), (2, .int (xi 0))]) rfl ?_
        rcases r16 with t17 | y18
        · refine j_X5_areLegal_L43 C p0 _ _ _ hLr16 (fun tz ez => ?_) (fun tz ez => by cases ez)
          obtain rfl := Sum.inl.inj ez
          try dsimp only at hM
          refine xj_iconst C dX5_areLegal_66 ?_
          obtain rfl := Option.some.inj hM
          exact xj_zret (Or.inr rfl) C rfl dX5_areLegal_67
        · refine j_X5_areLegal_L43 C p0 _ _ _ hLr16 (fun tz ez => by cases ez) (fun tz ez => ?_)
          obtain rfl := Sum.inr.inj ez
          try dsimp only at hM
          obtain rfl := Option.some.inj hM
          rfl
      · refine j_X5_areLegal_L18 C p0 _ _ _ hLr8 (fun tz ez => by cases ez) (fun tz ez => ?_)
        obtain rfl := Sum.inr.inj ez
        try dsimp only at hM
        obtain rfl := Option.some.inj hM
        rfl
    · have hM := xif hM c2
      refine xj_iconst C dX5_areLegal_14 ?_
      obtain rfl := Option.some.inj hM
      exact xj_zret (Or.inl rfl) C rfl dX5_areLegal_15
def rmX5_bitsOf : Room := { frames := 0, cells := 0, slots := 0, locals := 0 }
theorem hv_X5_bitsOf : yX5_bitsOf.cls = RX5 ∧ yX5_bitsOf.cls ≠ "java/lang/invoke/MethodHandle" ∧ yX5_bitsOf.cls ≠ "java/lang/invoke/VarHandle" ∧ (parseMethodDescriptor yX5_bitsOf.desc).map (fun d => d.parameters.length) = some 1 := by decide +kernel
def m_X5_bitsOf (p1 : Int) (S : xS) : Option (Int64) := xck (xr p1) (if p1 < 0 then some (0 : Int64) else (if p1 < 16 then xck (0 ≤ p1 ∧ p1 < 16) (some (Int64.ofInt (S 26 p1))) else some (0 : Int64)))
set_option maxRecDepth 100000 in
set_option maxHeartbeats 4000000 in
theorem c_X5_bitsOf {l : Launch} {D : va_G} {k : Nat → ClassId} {ad : Nat → Nat} {S : xS} {p1 : Int} {res : Int64} (hM : m_X5_bitsOf p1 S = some res) : xM l yX5_bitsOf wsX5_bitsOf rmX5_bitsOf D k [.ref (ad 40), .int (xi p1)] (wX ad k S) (some (.long res)) (wX ad k S) := by
  refine xM_of (ret := (some .long)) (by decide) rfl (Nat.le_of_ble_eq_true rfl) (fun X C => ?_)
  have C : xC D k (xo X D k (some (.long res)) (wX ad k S)) X cX5_bitsOf 2 RX5 wsX5_bitsOf (some .long) rmX5_bitsOf := C
  show xJ l D k (xo X D k (some (.long res)) (wX ad k S)) X 2 0 [(0, .ref (ad 40)), (1, .int (xi p1))] [] (wX ad k S)
  unfold m_X5_bitsOf at hM
  refine xj_iload_n C 1 dX5_bitsOf_0 rfl rfl ?_
  obtain ⟨g1, hM⟩ := xck_some hM
  refine xj_if_lt C (tgt := 10) dX5_bitsOf_1 (by decide) g1 (fun c2 => ?_) (fun c2 => ?_)
  · have hM := xit hM c2
    refine xj_lconst C (v := 0) rfl dX5_bitsOf_10 ?_
    refine xj_goto C (tgt := 20) dX5_bitsOf_11 (by decide) ?_
    obtain rfl := Option.some.inj hM
    exact xj_lret C rfl dX5_bitsOf_20
  · have hM := xif hM c2
    refine xj_iload_n C 1 dX5_bitsOf_4 rfl rfl ?_
    refine xj_bipush C (n := 16) (by decide) dX5_bitsOf_5 ?_
    refine xj_icmp_lt C (tgt := 14) dX5_bitsOf_7 (by decide) ⟨g1, (by decide)⟩ (fun c3 => ?_) (fun c3 => ?_)
    · have hM := xit hM c3
      refine xj_aload_n C 0 dX5_bitsOf_14 rfl rfl ?_
      refine xj_get C (fun _ h => List.mem_cons_of_mem _ (List.mem_append_right _ h)) 40 (eX_40 ad k S) rfl 1 (by decide) (List.mem_of_getElem? (i := 1) rfl) (fun _ _ h => h) rfl dX5_bitsOf_15 ?_
      refine xj_iload_n C 1 dX5_bitsOf_18 rfl rfl ?_
      obtain ⟨g4, hM⟩ := xck_some hM
      refine xj_lald C 26 S 26 (eX_26 ad k S) (Nat.le_of_ble_eq_true rfl) g4 dX5_bitsOf_19 ?_
      obtain rfl := Option.some.inj hM
      exact xj_lret C rfl dX5_bitsOf_20
    · have hM := xif hM c3
      refine xj_lconst C (v := 0) rfl dX5_bitsOf_10 ?_
      refine xj_goto C (tgt := 20) dX5_bitsOf_11 (by decide) ?_
      obtain rfl := Option.some.inj hM
      exact xj_lret C rfl dX5_bitsOf_20
def rmX5_hasRegister : Room := { frames := 1, cells := 0, slots := 0, locals := 21 }
theorem hv_X5_hasRegister : yX5_hasRegister.cls = RX5 ∧ yX5_hasRegister.cls ≠ "java/lang/invoke/MethodHandle" ∧ yX5_hasRegister.cls ≠ "java/lang/invoke/VarHandle" ∧ (parseMethodDescriptor yX5_hasRegister.desc).map (fun d => d.parameters.length) = some 1 := by decide +kernel
def m_X5_hasRegister (p1 : Int) (S : xS) : Option (Int) := (m_X5_bitsOf p1 S).bind (fun r1 => (if (xb_lcmp ((r1 >>> ((xi 8).toInt64 &&& 63)) &&& (1 : Int64)) (1 : Int64)) = 0 then some 1 else some 0))
set_option maxRecDepth 100000 in
set_option maxHeartbeats 4000000 in
theorem c_X5_hasRegister {l : Launch} {D : va_G} {k : Nat → ClassId} {ad : Nat → Nat} {S : xS} {p1 : Int} {res : Int} (hM : m_X5_hasRegister p1 S = some res) : xM l yX5_hasRegister wsX5_hasRegister rmX5_hasRegister D k [.ref (ad 40), .int (xi p1)] (wX ad k S) (some (.int (xi res))) (wX ad k S) := by
  refine xM_of (ret := (some .boolean)) (by decide) rfl (Nat.le_of_ble_eq_true rfl) (fun X C => ?_)
  have C : xC D k (xo X D k (some (.int (xi res))) (wX ad k S)) X cX5_hasRegister 2 RX5 wsX5_hasRegister (some .boolean) rmX5_hasRegister := C
  show xJ l D k (xo X D k (some (.int (xi res))) (wX ad k S)) X 2 0 [(0, .ref (ad 40)), (1, .int (xi p1))] [] (wX ad k S)
  unfold m_X5_hasRegister at hM
  refine xj_aload_n C 0 dX5_hasRegister_0 rfl rfl ?_
  refine xj_iload_n C 1 dX5_hasRegister_1 rfl rfl ?_
  obtain ⟨r1, hRr1, hM⟩ := xbd hM
  refine xj_callV C [.int (xi p1)] [] 1 (c_X5_bitsOf hRr1) gX5_hasRegister_X5_bitsOf rfl ⟨rfl, rfl⟩ hv_X5_bitsOf ⟨Nat.le_of_ble_eq_true rfl, Nat.le_of_ble_eq_true rfl⟩ 40 (eX_40 ad k _) rfl rfl (Nat.le_of_ble_eq_true rfl) dX5_hasRegister_2 ?_
  refine xj_bipush C (n := 8) (by decide) dX5_hasRegister_5 ?_
  refine xj_lshr C dX5_hasRegister_7 ?_
  refine xj_lconst C (v := 1) rfl dX5_hasRegister_8 ?_
  refine xj_land C dX5_hasRegister_9 ?_
  refine xj_lconst C (v := 1) rfl dX5_hasRegister_10 ?_
  refine xj_lcmp C dX5_hasRegister_11 ?_
  refine xj_if_ne C (tgt := 19) dX5_hasRegister_12 (by decide) (xr_lcmp _ _) (fun c2 => ?_) (fun c2 => ?_)
  · have hM := xif hM c2
    refine xj_iconst C dX5_hasRegister_19 ?_
    obtain rfl := Option.some.inj hM
    exact xj_zret (Or.inl rfl) C rfl dX5_hasRegister_20
  · have hM := xit hM c2
    refine xj_iconst C dX5_hasRegister_15 ?_
    refine xj_goto C (tgt := 20) dX5_hasRegister_16 (by decide) ?_
    obtain rfl := Option.some.inj hM
    exact xj_zret (Or.inr rfl) C rfl dX5_hasRegister_20
def rmX5_setBits : Room := { frames := 2, cells := 0, slots := 0, locals := 42 }
theorem hv_X5_setBits : yX5_setBits.cls = RX5 ∧ yX5_setBits.cls ≠ "java/lang/invoke/MethodHandle" ∧ yX5_setBits.cls ≠ "java/lang/invoke/VarHandle" ∧ (parseMethodDescriptor yX5_setBits.desc).map (fun d => d.parameters.length) = some 2 := by decide +kernel
def m_X5_setBits (p1 : Int) (p2 : Int64) (S : xS) : Option (xS) := xck (xr p1) (if p1 < 0 then some S else (if p1 < 16 then (m_X5_hasRegister p1 S).bind (fun r4 => xck (0 ≤ p1 ∧ p1 < 16) ((m_X5_hasRegister p1 (xup S 26 p1 p2.toInt)).bind (fun r6 => xck (xr r6 ∧ xr r4) (if r6 = r4 then some (xup S 26 p1 p2.toInt) else some (xup (xup S 26 p1 p2.toInt) 27 p1 0))))) else some S))
set_option maxRecDepth 100000 in
set_option maxHeartbeats 4000000 in
theorem c_X5_setBits {l : Launch} {D : va_G} {k : Nat → ClassId} {ad : Nat → Nat} {S : xS} {p1 : Int} {p2 : Int64} {res : xS} (hM : m_X5_setBits p1 p2 S = some res) : xM l yX5_setBits wsX5_setBits rmX5_setBits D k [.ref (ad 40), .int (xi p1), .long p2] (wX ad k S) none (wX ad k res) := by
  refine xM_of (ret := none) (by decide) rfl (Nat.le_of_ble_eq_true rfl) (fun X C => ?_)
  have C : xC D k (xo X D k none (wX ad k res)) X cX5_setBits 5 RX5 wsX5_setBits none rmX5_setBits := C
  show xJ l D k (xo X D k none (wX ad k res)) X 5 0 [(0, .ref (ad 40)), (1, .int (xi p1)), (2, .long p2)] [] (wX ad k S)
  unfold m_X5_setBits at hM
  refine xj_iload_n C 1 dX5_setBits_0 rfl rfl ?_
  obtain ⟨g1, hM⟩ := xck_some hM
  refine xj_if_lt C (tgt := 10) dX5_setBits_1 (by decide) g1 (fun c2 => ?_) (fun c2 => ?_)
  · have hM := xit hM c2
    obtain rfl := Option.some.inj hM
    exact xj_vret C rfl dX5_setBits_10
  · have hM := xif hM c2
    refine xj_iload_n C 1 dX5_setBits_4 rfl rfl ?_
    refine xj_bipush C (n := 16) (by decide) dX5_setBits_5 ?_
    refine xj_icmp_lt C (tgt := 11) dX5_setBits_7 (by decide) ⟨g1, (by decide)⟩ (fun c3 => ?_) (fun c3 => ?_)
    · have hM := xit hM c3
      refine xj_aload_n C 0 dX5_setBits_11 rfl rfl ?_
      refine xj_iload_n C 1 dX5_setBits_12 rfl rfl ?_
      obtain ⟨r4, hRr4, hM⟩ := xbd hM
      refine xj_callV C [.int (xi p1)] [] 1 (c_X5_hasRegister hRr4) gX5_setBits_X5_hasRegister rfl ⟨rfl, rfl⟩ hv_X5_hasRegister ⟨Nat.le_of_ble_eq_true rfl, Nat.le_of_ble_eq_true rfl⟩ 40 (eX_40 ad k _) rfl rfl (Nat.le_of_ble_eq_true rfl) dX5_setBits_13 ?_
      refine xj_istore C (L1 := [(4, .int (xi r4)), (0, .ref (ad 40)), (1, .int (xi p1)), (2, .long p2)]) dX5_setBits_16 (by decide) rfl ?_
      refine xj_aload_n C 1 dX5_setBits_18 rfl rfl ?_
      refine xj_get C (fun _ h => List.mem_cons_of_mem _ (List.mem_append_right _ h)) 40 (eX_40 ad k S) rfl 1 (by decide) (List.mem_of_getElem? (i := 1) rfl) (fun _ _ h => h) rfl dX5_setBits_19 ?_
      refine xj_iload_n C 2 dX5_setBits_22 rfl rfl ?_
      refine xj_lload_n C 3 dX5_setBits_23 rfl rfl ?_
      obtain ⟨g5, hM⟩ := xck_some hM
      refine xj_last C 26 S 26 (eX_26 ad k S) (Nat.le_of_ble_eq_true rfl) g5 (sX_26 ad k S p1 p2) dX5_setBits_24 ?_
      refine xj_aload_n C 1 dX5_setBits_25 rfl rfl ?_
      refine xj_iload_n C 2 dX5_setBits_26 rfl rfl ?_
      obtain ⟨r6, hRr6, hM⟩ := xbd hM
      refine xj_callV C [.int (xi p1)] [] 1 (c_X5_hasRegister hRr6) gX5_setBits_X5_hasRegister rfl ⟨rfl, rfl⟩ hv_X5_hasRegister ⟨Nat.le_of_ble_eq_true rfl, Nat.le_of_ble_eq_true rfl⟩ 40 (eX_40 ad k _) rfl rfl (Nat.le_of_ble_eq_true rfl) dX5_setBits_27 ?_
      refine xj_iload C 0 dX5_setBits_30 rfl ?_
      obtain ⟨g7, hM⟩ := xck_some hM
      refine xj_icmp_eq C (tgt := 42) dX5_setBits_32 (by decide) ⟨g7.1, g7.2⟩ (fun c8 => ?_) (fun c8 => ?_)
      · have hM := xit hM c8
        obtain rfl := Option.some.inj hM
        exact xj_vret C rfl dX5_setBits_42
      · have hM := xif hM c8
        refine xj_aload_n C 1 dX5_setBits_35 rfl rfl ?_
        refine xj_get C (fun _ h => List.mem_cons_of_mem _ (List.mem_append_right _ h)) 40 (eX_40 ad k (xup S 26 p1 p2.toInt)) rfl 2 (by decide) (List.mem_of_getElem? (i := 2) rfl) (fun _ _ h => h) rfl dX5_setBits_36 ?_
        refine xj_iload_n C 2 dX5_setBits_39 rfl rfl ?_
        refine xj_iconst C dX5_setBits_40 ?_
        refine xj_iast C 27 (xup S 26 p1 p2.toInt) 27 (eX_27 ad k (xup S 26 p1 p2.toInt)) (Nat.le_of_ble_eq_true rfl) g5 (sX_27 ad k (xup S 26 p1 p2.toInt) p1 0) dX5_setBits_41 ?_
        obtain rfl := Option.some.inj hM
        exact xj_vret C rfl dX5_setBits_42
    · have hM := xif hM c3
      obtain rfl := Option.some.inj hM
      exact xj_vret C rfl dX5_setBits_10
def rmX5_originAt : Room := { frames := 1, cells := 0, slots := 0, locals := 20 }
theorem hv_X5_originAt : yX5_originAt.cls ≠ "java/lang/invoke/MethodHandle" ∧ yX5_originAt.cls ≠ "java/lang/invoke/VarHandle" ∧ (parseMethodDescriptor yX5_originAt.desc).map (fun d => d.parameters.length) = some 1 := by decide +kernel
def m_X5_originAt (p0 : Int) : Option (Int) := xck (xr p0) (if p0 = (-1) then some (-1) else (m_X1_isChannel p0).bind (fun r3 => xck (xr r3) (if r3 = 0 then (if 144 ≤ p0 then some ((16 + p0) - 144) else xck (0 ≤ p0 ∧ p0 ≤ 2147483647) (some (p0 / 9))) else some (-2))))
set_option maxRecDepth 100000 in
set_option maxHeartbeats 4000000 in
theorem c_X5_originAt {l : Launch} {D : va_G} {k : Nat → ClassId} {w : va_W} {p0 : Int} {res : Int} (hM : m_X5_originAt p0 = some res) : xM l yX5_originAt wsX5_originAt rmX5_originAt D k [.int (xi p0)] w (some (.int (xi res))) w := by
  refine xM_of (ret := (some .int)) (by decide) rfl (Nat.le_of_ble_eq_true rfl) (fun X C => ?_)
  have C : xC D k (xo X D k (some (.int (xi res))) w) X cX5_originAt 1 RX5 wsX5_originAt (some .int) rmX5_originAt := C
  show xJ l D k (xo X D k (some (.int (xi res))) w) X 1 0 [(0, .int (xi p0))] [] w
  unfold m_X5_originAt at hM
  refine xj_iload_n C 0 dX5_originAt_0 rfl rfl ?_
  refine xj_iconst C dX5_originAt_1 ?_
  obtain ⟨g1, hM⟩ := xck_some hM
  refine xj_icmp_ne C (tgt := 7) dX5_originAt_2 (by decide) ⟨g1, (by decide)⟩ (fun c2 => ?_) (fun c2 => ?_)
  · have hM := xif hM c2
    refine xj_iload_n C 0 dX5_originAt_7 rfl rfl ?_
    obtain ⟨r3, hRr3, hM⟩ := xbd hM
    refine xj_callS C [.int (xi p0)] [] 1 (c_X1_isChannel hRr3) gX5_originAt_X1_isChannel rfl ⟨rfl, rfl⟩ hv_X1_isChannel ⟨Nat.le_of_ble_eq_true rfl, Nat.le_of_ble_eq_true rfl⟩ rfl (Nat.le_of_ble_eq_true rfl) dX5_originAt_8 ?_
    obtain ⟨g4, hM⟩ := xck_some hM
    refine xj_if_eq C (tgt := 17) dX5_originAt_11 (by decide) g4 (fun c5 => ?_) (fun c5 => ?_)
    · have hM := xit hM c5
      refine xj_iload_n C 0 dX5_originAt_17 rfl rfl ?_
      refine xj_sipush C (n := 144) (by decide) dX5_originAt_18 ?_
      refine xj_icmp_ge C (tgt := 31) dX5_originAt_21 (by decide) ⟨g1, (by decide)⟩ (fun c6 => ?_) (fun c6 => ?_)
      · have hM := xit hM c6
        refine xj_bipush C (n := 16) (by decide) dX5_originAt_31 ?_
        refine xj_iload_n C 0 dX5_originAt_33 rfl rfl ?_
        refine xj_iadd C dX5_originAt_34 ?_
        refine xj_sipush C (n := 144) (by decide) dX5_originAt_35 ?_
        refine xj_isub C dX5_originAt_38 ?_
        obtain rfl := Option.some.inj hM
        exact xj_iret C rfl dX5_originAt_39
      · have hM := xif hM c6
        refine xj_iload_n C 0 dX5_originAt_24 rfl rfl ?_
        refine xj_bipush C (n := 9) (by decide) dX5_originAt_25 ?_
        obtain ⟨g7, hM⟩ := xck_some hM
        refine xj_idiv C ⟨g7.1, g7.2, by decide, by decide⟩ dX5_originAt_27 ?_
        refine xj_goto C (tgt := 39) dX5_originAt_28 (by decide) ?_
        obtain rfl := Option.some.inj hM
        exact xj_iret C rfl dX5_originAt_39
    · have hM := xif hM c5
      refine xj_bipush C (n := (-2)) (by decide) dX5_originAt_14 ?_
      obtain rfl := Option.some.inj hM
      exact xj_iret C rfl dX5_originAt_16
  · have hM := xit hM c2
    refine xj_iconst C dX5_originAt_5 ?_
    obtain rfl := Option.some.inj hM
    exact xj_iret C rfl dX5_originAt_6
def rmX5_trace : Room := { frames := 2, cells := 0, slots := 0, locals := 40 }
theorem hv_X5_trace : yX5_trace.cls = RX5 ∧ yX5_trace.cls ≠ "java/lang/invoke/MethodHandle" ∧ yX5_trace.cls ≠ "java/lang/invoke/VarHandle" ∧ (parseMethodDescriptor yX5_trace.desc).map (fun d => d.parameters.length) = some 2 := by decide +kernel
def m_X5_trace_L5 (p1 : Int) (S : xS) : Nat → Int → Int → Option (Int × Int)
  | 0, _, _ => none
  | n + 1, v3, v4 => xck (xr v4) (if 128 ≤ v4 then some (v3, v4) else (m_X1_isChannel v3).bind (fun r3 => xck (xr r3) (if r3 = 0 then some (v3, v4) else xck (0 ≤ v3 ∧ v3 ≤ 2147483647) ((m_X5_bitsOf (v3 / 9) S).bind (fun r7 => (m_X5_channelSetting r7 ((v3 % 9) - 1)).bind (fun r8 => (m_X1_beforeChannel v3 r8 S).bind (fun r9 => m_X5_trace_L5 p1 S n r9 (v4 + 1))))))))
def m_X5_trace (p1 : Int) (p2 : Int) (S : xS) : Option (xS) := (m_X5_trace_L5 p1 S 2000 p2 0).bind (fun r10 => (m_X5_originAt r10.1).bind (fun r11 => xck (0 ≤ p1 ∧ p1 < 52) (xck (xr ((xup S 29 p1 r11) 29 p1)) (if 0 ≤ ((xup S 29 p1 r11) 29 p1) then some (xup (xup S 29 p1 r11) 30 p1 r10.2) else some (xup (xup S 29 p1 r11) 30 p1 0)))))
set_option maxRecDepth 100000 in
set_option maxHeartbeats 4000000 in
theorem j_X5_trace_L5 {l : Launch} {D : va_G} {k : Nat → ClassId} {ad : Nat → Nat} {o : xO} {X : xX} (C : xC D k o X cX5_trace 8 RX5 wsX5_trace none rmX5_trace) (p1 : Int) (S : xS) : ∀ (n : Nat) (v3 : Int) (v4 : Int) (r : Int × Int), m_X5_trace_L5 p1 S n v3 v4 = some r → (xJ l D k o X 8 60 [(0, .ref (ad 40)), (1, .int (xi p1)), (3, .int (xi r.1)), (4, .int (xi r.2))] [] (wX ad k S)) → xJ l D k o X 8 5 [(0, .ref (ad 40)), (1, .int (xi p1)), (3, .int (xi v3)), (4, .int (xi v4))] [] (wX ad k S) := by
  intro n
  induction n with
  | zero =>
    intro v3 v4 r hM
    cases hM
  | succ n ih =>
    intro v3 v4 r hM K
    unfold m_X5_trace_L5 at hM
    refine xj_iload C 3 dX5_trace_5 rfl ?_
    refine xj_sipush C (n := 128) (by decide) dX5_trace_7 ?_
    obtain ⟨g1, hM⟩ := xck_some hM
    refine xj_icmp_ge C (tgt := 60) dX5_trace_10 (by decide) ⟨g1, (by decide)⟩ (fun c2 => ?_) (fun c2 => ?_)
    · have hM := xit hM c2
      obtain rfl := Option.some.inj hM
      exact K
    · have hM := xif hM c2
      refine xj_iload_n C 2 dX5_trace_13 rfl rfl ?_
      obtain ⟨r3, hRr3, hM⟩ := xbd hM
      refine xj_callS C [.int (xi v3)] [] 1 (c_X1_isChannel hRr3) gX5_trace_X1_isChannel rfl ⟨rfl, rfl⟩ hv_X1_isChannel ⟨Nat.le_of_ble_eq_true rfl, Nat.le_of_ble_eq_true rfl⟩ rfl (Nat.le_of_ble_eq_true rfl) dX5_trace_14 ?_
      obtain ⟨g4, hM⟩ := xck_some hM
      refine xj_if_eq C (tgt := 60) dX5_trace_17 (by decide) g4 (fun c5 => ?_) (fun c5 => ?_)
      · have hM := xit hM c5
        obtain rfl := Option.some.inj hM
        exact K
      · have hM := xif hM c5
        refine xj_iinc C 3 (L1 := [(4, .int (xi (v4 + 1))), (0, .ref (ad 40)), (1, .int (xi p1)), (3, .int (xi v3))]) dX5_trace_20 rfl (by decide) rfl ?_
        refine xj_aload_n C 1 dX5_trace_23 rfl rfl ?_
        refine xj_iload_n C 3 dX5_trace_24 rfl rfl ?_
        refine xj_bipush C (n := 9) (by decide) dX5_trace_25 ?_
        obtain ⟨g6, hM⟩ := xck_some hM
        refine xj_idiv C ⟨g6.1, g6.2, by decide, by decide⟩ dX5_trace_27 ?_
        obtain ⟨r7, hRr7, hM⟩ := xbd hM
        refine xj_callV C [.int (xi (v3 / 9))] [] 1 (c_X5_bitsOf hRr7) gX5_trace_X5_bitsOf rfl ⟨rfl, rfl⟩ hv_X5_bitsOf ⟨Nat.le_of_ble_eq_true rfl, Nat.le_of_ble_eq_true rfl⟩ 40 (eX_40 ad k _) rfl rfl (Nat.le_of_ble_eq_true rfl) dX5_trace_28 ?_
        refine xj_lstore C (L1 := [(5, .long r7), (4, .int (xi (v4 + 1))), (0, .ref (ad 40)), (1, .int (xi p1)), (3, .int (xi v3))]) dX5_trace_31 (by decide) rfl ?_
        refine xj_lload C 0 dX5_trace_33 rfl ?_
        refine xj_iload_n C 4 dX5_trace_35 rfl rfl ?_
        refine xj_bipush C (n := 9) (by decide) dX5_trace_36 ?_
        refine xj_irem C ⟨g6.1, g6.2, by decide, by decide⟩ dX5_trace_38 ?_
        refine xj_iconst C dX5_trace_39 ?_
        refine xj_isub C dX5_trace_40 ?_
        obtain ⟨r8, hRr8, hM⟩ := xbd hM
        refine xj_callS C [.long r7, .int (xi ((v3 % 9) - 1))] [] 2 (c_X5_channelSetting hRr8) gX5_trace_X5_channelSetting rfl ⟨rfl, rfl⟩ hv_X5_channelSetting ⟨Nat.le_of_ble_eq_true rfl, Nat.le_of_ble_eq_true rfl⟩ rfl (Nat.le_of_ble_eq_true rfl) dX5_trace_41 ?_
        refine xj_istore C (L1 := [(7, .int (xi r8)), (5, .long r7), (4, .int (xi (v4 + 1))), (0, .ref (ad 40)), (1, .int (xi p1)), (3, .int (xi v3))]) dX5_trace_44 (by decide) rfl ?_
        refine xj_aload_n C 3 dX5_trace_46 rfl rfl ?_
        refine xj_get C (fun _ h => List.mem_cons_of_mem _ (List.mem_append_left _ (List.mem_append_right _ h))) 40 (eX_40 ad k S) rfl 0 (by decide) (List.mem_of_getElem? (i := 1) rfl) (fun _ _ h => h) rfl dX5_trace_47 ?_
        refine xj_iload_n C 5 dX5_trace_50 rfl rfl ?_
        refine xj_iload C 0 dX5_trace_51 rfl ?_
        obtain ⟨r9, hRr9, hM⟩ := xbd hM
        refine xj_callV C [.int (xi v3), .int (xi r8)] [] 2 (c_X1_beforeChannel hRr9) gX5_trace_X1_beforeChannel rfl ⟨rfl, rfl⟩ hv_X1_beforeChannel ⟨Nat.le_of_ble_eq_true rfl, Nat.le_of_ble_eq_true rfl⟩ 36 (eX_36 ad k _) rfl rfl (Nat.le_of_ble_eq_true rfl) dX5_trace_53 ?_
        refine xj_istore_n C (L1 := [(3, .int (xi r9)), (7, .int (xi r8)), (5, .long r7), (4, .int (xi (v4 + 1))), (0, .ref (ad 40)), (1, .int (xi p1))]) dX5_trace_56 rfl (by decide) rfl ?_
        refine xj_goto C (tgt := 5) dX5_trace_57 (by decide) ?_
        refine xj_loc C [4, 5, 0, 3] (L1 := [(0, .ref (ad 40)), (1, .int (xi p1)), (3, .int (xi r9)), (4, .int (xi (v4 + 1)))]) rfl ?_
        exact ih _ _ _ hM K
set_option maxRecDepth 100000 in
set_option maxHeartbeats 4000000 in
theorem c_X5_trace {l : Launch} {D : va_G} {k : Nat → ClassId} {ad : Nat → Nat} {S : xS} {p1 : Int} {p2 : Int} {res : xS} (hM : m_X5_trace p1 p2 S = some res) : xM l yX5_trace wsX5_trace rmX5_trace D k [.ref (ad 40), .int (xi p1), .int (xi p2)] (wX ad k S) none (wX ad k res) := by
  refine xM_of (ret := none) (by decide) rfl (Nat.le_of_ble_eq_true rfl) (fun X C => ?_)
  have C : xC D k (xo X D k none (wX ad k res)) X cX5_trace 8 RX5 wsX5_trace none rmX5_trace := C
  show xJ l D k (xo X D k none (wX ad k res)) X 8 0 [(0, .ref (ad 40)), (1, .int (xi p1)), (2, .int (xi p2))] [] (wX ad k S)
  unfold m_X5_trace at hM
  refine xj_iload_n C 2 dX5_trace_0 rfl rfl ?_
  refine xj_istore_n C (L1 := [(3, .int (xi p2)), (0, .ref (ad 40)), (1, .int (xi p1)), (2, .int (xi p2))]) dX5_trace_1 rfl (by decide) rfl ?_
  refine xj_iconst C dX5_trace_2 ?_
  refine xj_istore C (L1 := [(4, .int (xi 0)), (3, .int (xi p2)), (0, .ref (ad 40)), (1, .int (xi p1)), (2, .int (xi p2))]) dX5_trace_3 (by decide) rfl ?_
  obtain ⟨r10, hLr10, hM⟩ := xbd hM
  refine xj_loc C [2, 3, 1, 0] (L1 := [(0, .ref (ad 40)), (1, .int (xi p1)), (3, .int (xi p2)), (4, .int (xi 0))]) rfl ?_
  refine j_X5_trace_L5 C p1 S _ _ _ _ hLr10 ?_
  refine xj_aload_n C 0 dX5_trace_60 rfl rfl ?_
  refine xj_get C (fun _ h => List.mem_cons_of_mem _ (List.mem_append_left _ (List.mem_append_right _ h))) 40 (eX_40 ad k S) rfl 4 (by decide) (List.mem_of_getElem? (i := 2) rfl) (fun _ _ h => h) rfl dX5_trace_61 ?_
  refine xj_iload_n C 1 dX5_trace_64 rfl rfl ?_
  refine xj_iload_n C 2 dX5_trace_65 rfl rfl ?_
  obtain ⟨r11, hRr11, hM⟩ := xbd hM
  refine xj_callS C [.int (xi r10.1)] [.int (xi p1), .ref (ad 29)] 1 (c_X5_originAt hRr11) gX5_trace_X5_originAt rfl ⟨rfl, rfl⟩ hv_X5_originAt ⟨Nat.le_of_ble_eq_true rfl, Nat.le_of_ble_eq_true rfl⟩ rfl (Nat.le_of_ble_eq_true rfl) dX5_trace_66 ?_
  obtain ⟨g12, hM⟩ := xck_some hM
  refine xj_iast C 29 S 29 (eX_29 ad k S) (Nat.le_of_ble_eq_true rfl) g12 (sX_29 ad k S p1 r11) dX5_trace_69 ?_
  refine xj_aload_n C 0 dX5_trace_70 rfl rfl ?_
  refine xj_get C (fun _ h => List.mem_cons_of_mem _ (List.mem_append_left _ (List.mem_append_right _ h))) 40 (eX_40 ad k (xup S 29 p1 r11)) rfl 5 (by decide) (List.mem_of_getElem? (i := 3) rfl) (fun _ _ h => h) rfl dX5_trace_71 ?_
  refine xj_iload_n C 1 dX5_trace_74 rfl rfl ?_
  refine xj_aload_n C 0 dX5_trace_75 rfl rfl ?_
  refine xj_get C (fun _ h => List.mem_cons_of_mem _ (List.mem_append_left _ (List.mem_append_right _ h))) 40 (eX_40 ad k (xup S 29 p1 r11)) rfl 4 (by decide) (List.mem_of_getElem? (i := 2) rfl) (fun _ _ h => h) rfl dX5_trace_76 ?_
  refine xj_iload_n C 1 dX5_trace_79 rfl rfl ?_
  refine xj_iald C 29 (xup S 29 p1 r11) 29 (eX_29 ad k (xup S 29 p1 r11)) (Nat.le_of_ble_eq_true rfl) g12 dX5_trace_80 ?_
  obtain ⟨g13, hM⟩ := xck_some hM
  refine xj_if_ge C (tgt := 88) dX5_trace_81 (by decide) g13 (fun c14 => ?_) (fun c14 => ?_)
  · have hM := xit hM c14
    refine xj_iload C 3 dX5_trace_88 rfl ?_
    refine xj_iast C 30 (xup S 29 p1 r11) 30 (eX_30 ad k (xup S 29 p1 r11)) (Nat.le_of_ble_eq_true rfl) g12 (sX_30 ad k (xup S 29 p1 r11) p1 r10.2) dX5_trace_90 ?_
    obtain rfl := Option.some.inj hM
    exact xj_vret C rfl dX5_trace_91
  · have hM := xif hM c14
    refine xj_iconst C dX5_trace_84 ?_
    refine xj_goto C (tgt := 90) dX5_trace_85 (by decide) ?_
    refine xj_iast C 30 (xup S 29 p1 r11) 30 (eX_30 ad k (xup S 29 p1 r11)) (Nat.le_of_ble_eq_true rfl) g12 (sX_30 ad k (xup S 29 p1 r11) p1 0) dX5_trace_90 ?_
    obtain rfl := Option.some.inj hM
    exact xj_vret C rfl dX5_trace_91
def rmX5_retrace : Room := { frames := 3, cells := 0, slots := 0, locals := 67 }
theorem hv_X5_retrace : yX5_retrace.cls = RX5 ∧ yX5_retrace.cls ≠ "java/lang/invoke/MethodHandle" ∧ yX5_retrace.cls ≠ "java/lang/invoke/VarHandle" ∧ (parseMethodDescriptor yX5_retrace.desc).map (fun d => d.parameters.length) = some 0 := by decide +kernel
def m_X5_retrace_L2 : Nat → Int → xS → Option (xS)
  | 0, _, _ => none
  | n + 1, v1, S => xck (xr v1) (if 48 ≤ v1 then some S else xck (0 ≤ v1 ∧ v1 ≤ 2147483647) (xck (0 ≤ (v1 / 3) ∧ (v1 / 3) < 16) ((m_X5_pinSetting (Int64.ofInt (S 26 (v1 / 3))) (v1 % 3)).bind (fun r5 => (m_X1_beforePin (v1 / 3) r5 S).bind (fun r6 => (m_X5_trace v1 r6 S).bind (fun r7 => m_X5_retrace_L2 n (v1 + 1) r7))))))
def m_X5_retrace_L47 : Nat → Int → xS → Option (xS)
  | 0, _, _ => none
  | n + 1, v1, S => xck (xr v1) (if 4 ≤ v1 then some S else (m_X1_outputWire v1).bind (fun r11 => (m_X5_trace (48 + v1) r11 S).bind (fun r12 => m_X5_retrace_L47 n (v1 + 1) r12)))
def m_X5_retrace (S : xS) : Option (xS) := (m_X5_retrace_L2 2000 0 S).bind (fun r8 => (m_X5_retrace_L47 2000 0 r8).bind (fun r13 => some r13))
set_option maxRecDepth 100000 in
set_option maxHeartbeats 4000000 in
theorem j_X5_retrace_L2 {l : Launch} {D : va_G} {k : Nat → ClassId} {ad : Nat → Nat} {o : xO} {X : xX} (C : xC D k o X cX5_retrace 4 RX5 wsX5_retrace none rmX5_retrace) : ∀ (n : Nat) (v1 : Int) (S : xS) (r : xS), m_X5_retrace_L2 n v1 S = some r → (xJ l D k o X 4 45 [(0, .ref (ad 40))] [] (wX ad k r)) → xJ l D k o X 4 2 [(0, .ref (ad 40)), (1, .int (xi v1))] [] (wX ad k S) := by
  intro n
  induction n with
  | zero =>
    intro v1 S r hM
    cases hM
  | succ n ih =>
    intro v1 S r hM K
    unfold m_X5_retrace_L2 at hM
    refine xj_iload_n C 1 dX5_retrace_2 rfl rfl ?_
    refine xj_bipush C (n := 48) (by decide) dX5_retrace_3 ?_
    obtain ⟨g1, hM⟩ := xck_some hM
    refine xj_icmp_ge C (tgt := 45) dX5_retrace_5 (by decide) ⟨g1, (by decide)⟩ (fun c2 => ?_) (fun c2 => ?_)
    · have hM := xit hM c2
      obtain rfl := Option.some.inj hM
      refine xj_loc C [0] (L1 := [(0, .ref (ad 40))]) rfl ?_
      exact K
    · have hM := xif hM c2
      refine xj_iload_n C 1 dX5_retrace_8 rfl rfl ?_
      refine xj_iconst C dX5_retrace_9 ?_
      obtain ⟨g3, hM⟩ := xck_some hM
      refine xj_idiv C ⟨g3.1, g3.2, by decide, by decide⟩ dX5_retrace_10 ?_
      refine xj_istore_n C (L1 := [(2, .int (xi (v1 / 3))), (0, .ref (ad 40)), (1, .int (xi v1))]) dX5_retrace_11 rfl (by decide) rfl ?_
      refine xj_aload_n C 1 dX5_retrace_12 rfl rfl ?_
      refine xj_get C (fun _ h => List.mem_cons_of_mem _ (List.mem_append_left _ (List.mem_append_right _ h))) 40 (eX_40 ad k S) rfl 1 (by decide) (List.mem_of_getElem? (i := 1) rfl) (fun _ _ h => h) rfl dX5_retrace_13 ?_
      refine xj_iload_n C 0 dX5_retrace_16 rfl rfl ?_
      obtain ⟨g4, hM⟩ := xck_some hM
      refine xj_lald C 26 S 26 (eX_26 ad k S) (Nat.le_of_ble_eq_true rfl) g4 dX5_retrace_17 ?_
      refine xj_iload_n C 2 dX5_retrace_18 rfl rfl ?_
      refine xj_iconst C dX5_retrace_19 ?_
      refine xj_irem C ⟨g3.1, g3.2, by decide, by decide⟩ dX5_retrace_20 ?_
      obtain ⟨r5, hRr5, hM⟩ := xbd hM
      refine xj_callS C [.long (Int64.ofInt (S 26 (v1 / 3))), .int (xi (v1 % 3))] [] 2 (c_X5_pinSetting hRr5) gX5_retrace_X5_pinSetting rfl ⟨rfl, rfl⟩ hv_X5_pinSetting ⟨Nat.le_of_ble_eq_true rfl, Nat.le_of_ble_eq_true rfl⟩ rfl (Nat.le_of_ble_eq_true rfl) dX5_retrace_21 ?_
      refine xj_istore_n C (L1 := [(3, .int (xi r5)), (2, .int (xi (v1 / 3))), (0, .ref (ad 40)), (1, .int (xi v1))]) dX5_retrace_24 rfl (by decide) rfl ?_
      refine xj_aload_n C 2 dX5_retrace_25 rfl rfl ?_
      refine xj_iload_n C 3 dX5_retrace_26 rfl rfl ?_
      refine xj_aload_n C 2 dX5_retrace_27 rfl rfl ?_
      refine xj_get C (fun _ h => List.mem_cons_of_mem _ (List.mem_append_left _ (List.mem_append_right _ h))) 40 (eX_40 ad k S) rfl 0 (by decide) (List.mem_of_getElem? (i := 2) rfl) (fun _ _ h => h) rfl dX5_retrace_28 ?_
      refine xj_iload_n C 1 dX5_retrace_31 rfl rfl ?_
      refine xj_iload_n C 0 dX5_retrace_32 rfl rfl ?_
      obtain ⟨r6, hRr6, hM⟩ := xbd hM
      refine xj_callV C [.int (xi (v1 / 3)), .int (xi r5)] [.int (xi v1), .ref (ad 40)] 2 (c_X1_beforePin hRr6) gX5_retrace_X1_beforePin rfl ⟨rfl, rfl⟩ hv_X1_beforePin ⟨Nat.le_of_ble_eq_true rfl, Nat.le_of_ble_eq_true rfl⟩ 36 (eX_36 ad k _) rfl rfl (Nat.le_of_ble_eq_true rfl) dX5_retrace_33 ?_
      obtain ⟨r7, hRr7, hM⟩ := xbd hM
      refine xj_callV C [.int (xi v1), .int (xi r6)] [] 2 (c_X5_trace hRr7) gX5_retrace_X5_trace rfl ⟨rfl, rfl⟩ hv_X5_trace ⟨Nat.le_of_ble_eq_true rfl, Nat.le_of_ble_eq_true rfl⟩ 40 (eX_40 ad k _) rfl rfl (Nat.le_of_ble_eq_true rfl) dX5_retrace_36 ?_
      refine xj_iinc C 3 (L1 := [(1, .int (xi (v1 + 1))), (3, .int (xi r5)), (2, .int (xi (v1 / 3))), (0, .ref (ad 40))]) dX5_retrace_39 rfl (by decide) rfl ?_
      refine xj_goto C (tgt := 2) dX5_retrace_42 (by decide) ?_
      refine xj_loc C [3, 0] (L1 := [(0, .ref (ad 40)), (1, .int (xi (v1 + 1)))]) rfl ?_
      exact ih _ _ _ hM K
set_option maxRecDepth 100000 in
set_option maxHeartbeats 4000000 in
theorem j_X5_retrace_L47 {l : Launch} {D : va_G} {k : Nat → ClassId} {ad : Nat → Nat} {o : xO} {X : xX} (C : xC D k o X cX5_retrace 4 RX5 wsX5_retrace none rmX5_retrace) : ∀ (n : Nat) (v1 : Int) (S : xS) (r : xS), m_X5_retrace_L47 n v1 S = some r → (xJ l D k o X 4 70 [] [] (wX ad k r)) → xJ l D k o X 4 47 [(0, .ref (ad 40)), (1, .int (xi v1))] [] (wX ad k S) := by
  intro n
  induction n with
  | zero =>
    intro v1 S r hM
    cases hM
  | succ n ih =>
    intro v1 S r hM K
    unfold m_X5_retrace_L47 at hM
    refine xj_iload_n C 1 dX5_retrace_47 rfl rfl ?_
    refine xj_iconst C dX5_retrace_48 ?_
    obtain ⟨g9, hM⟩ := xck_some hM
    refine xj_icmp_ge C (tgt := 70) dX5_retrace_49 (by decide) ⟨g9, (by decide)⟩ (fun c10 => ?_) (fun c10 => ?_)
    · have hM := xit hM c10
      obtain rfl := Option.some.inj hM
      refine xj_loc C [] (L1 := []) rfl ?_
      exact K
    · have hM := xif hM c10
      refine xj_aload_n C 0 dX5_retrace_52 rfl rfl ?_
      refine xj_bipush C (n := 48) (by decide) dX5_retrace_53 ?_
      refine xj_iload_n C 1 dX5_retrace_55 rfl rfl ?_
      refine xj_iadd C dX5_retrace_56 ?_
      refine xj_iload_n C 1 dX5_retrace_57 rfl rfl ?_
      obtain ⟨r11, hRr11, hM⟩ := xbd hM
      refine xj_callS C [.int (xi v1)] [.int (xi (48 + v1)), .ref (ad 40)] 1 (c_X1_outputWire hRr11) gX5_retrace_X1_outputWire rfl ⟨rfl, rfl⟩ hv_X1_outputWire ⟨Nat.le_of_ble_eq_true rfl, Nat.le_of_ble_eq_true rfl⟩ rfl (Nat.le_of_ble_eq_true rfl) dX5_retrace_58 ?_
      obtain ⟨r12, hRr12, hM⟩ := xbd hM
      refine xj_callV C [.int (xi (48 + v1)), .int (xi r11)] [] 2 (c_X5_trace hRr12) gX5_retrace_X5_trace rfl ⟨rfl, rfl⟩ hv_X5_trace ⟨Nat.le_of_ble_eq_true rfl, Nat.le_of_ble_eq_true rfl⟩ 40 (eX_40 ad k _) rfl rfl (Nat.le_of_ble_eq_true rfl) dX5_retrace_61 ?_
      refine xj_iinc C 1 (L1 := [(1, .int (xi (v1 + 1))), (0, .ref (ad 40))]) dX5_retrace_64 rfl (by decide) rfl ?_
      refine xj_goto C (tgt := 47) dX5_retrace_67 (by decide) ?_
      refine xj_loc C [1, 0] (L1 := [(0, .ref (ad 40)), (1, .int (xi (v1 + 1)))]) rfl ?_
      exact ih _ _ _ hM K
set_option maxRecDepth 100000 in
set_option maxHeartbeats 4000000 in
theorem c_X5_retrace {l : Launch} {D : va_G} {k : Nat → ClassId} {ad : Nat → Nat} {S : xS} {res : xS} (hM : m_X5_retrace S = some res) : xM l yX5_retrace wsX5_retrace rmX5_retrace D k [.ref (ad 40)] (wX ad k S) none (wX ad k res) := by
  refine xM_of (ret := none) (by decide) rfl (Nat.le_of_ble_eq_true rfl) (fun X C => ?_)
  have C : xC D k (xo X D k none (wX ad k res)) X cX5_retrace 4 RX5 wsX5_retrace none rmX5_retrace := C
  show xJ l D k (xo X D k none (wX ad k res)) X 4 0 [(0, .ref (ad 40))] [] (wX ad k S)
  unfold m_X5_retrace at hM
  refine xj_iconst C dX5_retrace_0 ?_
  refine xj_istore_n C (L1 := [(1, .int (xi 0)), (0, .ref (ad 40))]) dX5_retrace_1 rfl (by decide) rfl ?_
  obtain ⟨r8, hLr8, hM⟩ := xbd hM
  refine xj_loc C [1, 0] (L1 := [(0, .ref (ad 40)), (1, .int (xi 0))]) rfl ?_
  refine j_X5_retrace_L2 C _ _ _ _ hLr8 ?_
  refine xj_iconst C dX5_retrace_45 ?_
  refine xj_istore_n C (L1 := [(1, .int (xi 0)), (0, .ref (ad 40))]) dX5_retrace_46 rfl (by decide) rfl ?_
  obtain ⟨r13, hLr13, hM⟩ := xbd hM
  refine xj_loc C [1, 0] (L1 := [(0, .ref (ad 40)), (1, .int (xi 0))]) rfl ?_
  refine j_X5_retrace_L47 C _ _ _ _ hLr13 ?_
  obtain rfl := Option.some.inj hM
  exact xj_vret C rfl dX5_retrace_70
def rmX5_originOf : Room := { frames := 0, cells := 0, slots := 0, locals := 0 }
theorem hv_X5_originOf : yX5_originOf.cls = RX5 ∧ yX5_originOf.cls ≠ "java/lang/invoke/MethodHandle" ∧ yX5_originOf.cls ≠ "java/lang/invoke/VarHandle" ∧ (parseMethodDescriptor yX5_originOf.desc).map (fun d => d.parameters.length) = some 1 := by decide +kernel
def m_X5_originOf (p1 : Int) (S : xS) : Option (Int) := xck (xr p1) (if p1 < 0 then some (-1) else (if p1 < 52 then xck (0 ≤ p1 ∧ p1 < 52) (some (S 29 p1)) else some (-1)))
set_option maxRecDepth 100000 in
set_option maxHeartbeats 4000000 in
theorem c_X5_originOf {l : Launch} {D : va_G} {k : Nat → ClassId} {ad : Nat → Nat} {S : xS} {p1 : Int} {res : Int} (hM : m_X5_originOf p1 S = some res) : xM l yX5_originOf wsX5_originOf rmX5_originOf D k [.ref (ad 40), .int (xi p1)] (wX ad k S) (some (.int (xi res))) (wX ad k S) := by
  refine xM_of (ret := (some .int)) (by decide) rfl (Nat.le_of_ble_eq_true rfl) (fun X C => ?_)
  have C : xC D k (xo X D k (some (.int (xi res))) (wX ad k S)) X cX5_originOf 2 RX5 wsX5_originOf (some .int) rmX5_originOf := C
  show xJ l D k (xo X D k (some (.int (xi res))) (wX ad k S)) X 2 0 [(0, .ref (ad 40)), (1, .int (xi p1))] [] (wX ad k S)
  unfold m_X5_originOf at hM
  refine xj_iload_n C 1 dX5_originOf_0 rfl rfl ?_
  obtain ⟨g1, hM⟩ := xck_some hM
  refine xj_if_lt C (tgt := 10) dX5_originOf_1 (by decide) g1 (fun c2 => ?_) (fun c2 => ?_)
  · have hM := xit hM c2
    refine xj_iconst C dX5_originOf_10 ?_
    refine xj_goto C (tgt := 20) dX5_originOf_11 (by decide) ?_
    obtain rfl := Option.some.inj hM
    exact xj_iret C rfl dX5_originOf_20
  · have hM := xif hM c2
    refine xj_iload_n C 1 dX5_originOf_4 rfl rfl ?_
    refine xj_bipush C (n := 52) (by decide) dX5_originOf_5 ?_
    refine xj_icmp_lt C (tgt := 14) dX5_originOf_7 (by decide) ⟨g1, (by decide)⟩ (fun c3 => ?_) (fun c3 => ?_)
    · have hM := xit hM c3
      refine xj_aload_n C 0 dX5_originOf_14 rfl rfl ?_
      refine xj_get C (fun _ h => List.mem_cons_of_mem _ (List.mem_append_right _ h)) 40 (eX_40 ad k S) rfl 4 (by decide) (List.mem_of_getElem? (i := 1) rfl) (fun _ _ h => h) rfl dX5_originOf_15 ?_
      refine xj_iload_n C 1 dX5_originOf_18 rfl rfl ?_
      obtain ⟨g4, hM⟩ := xck_some hM
      refine xj_iald C 29 S 29 (eX_29 ad k S) (Nat.le_of_ble_eq_true rfl) g4 dX5_originOf_19 ?_
      obtain rfl := Option.some.inj hM
      exact xj_iret C rfl dX5_originOf_20
    · have hM := xif hM c3
      refine xj_iconst C dX5_originOf_10 ?_
      refine xj_goto C (tgt := 20) dX5_originOf_11 (by decide) ?_
      obtain rfl := Option.some.inj hM
      exact xj_iret C rfl dX5_originOf_20
def rmX5_lengthOf : Room := { frames := 0, cells := 0, slots := 0, locals := 0 }
theorem hv_X5_lengthOf : yX5_lengthOf.cls = RX5 ∧ yX5_lengthOf.cls ≠ "java/lang/invoke/MethodHandle" ∧ yX5_lengthOf.cls ≠ "java/lang/invoke/VarHandle" ∧ (parseMethodDescriptor yX5_lengthOf.desc).map (fun d => d.parameters.length) = some 1 := by decide +kernel
def m_X5_lengthOf (p1 : Int) (S : xS) : Option (Int) := xck (xr p1) (if p1 < 0 then some 0 else (if p1 < 52 then xck (0 ≤ p1 ∧ p1 < 52) (some (S 30 p1)) else some 0))
set_option maxRecDepth 100000 in
set_option maxHeartbeats 4000000 in
theorem c_X5_lengthOf {l : Launch} {D : va_G} {k : Nat → ClassId} {ad : Nat → Nat} {S : xS} {p1 : Int} {res : Int} (hM : m_X5_lengthOf p1 S = some res) : xM l yX5_lengthOf wsX5_lengthOf rmX5_lengthOf D k [.ref (ad 40), .int (xi p1)] (wX ad k S) (some (.int (xi res))) (wX ad k S) := by
  refine xM_of (ret := (some .int)) (by decide) rfl (Nat.le_of_ble_eq_true rfl) (fun X C => ?_)
  have C : xC D k (xo X D k (some (.int (xi res))) (wX ad k S)) X cX5_lengthOf 2 RX5 wsX5_lengthOf (some .int) rmX5_lengthOf := C
  show xJ l D k (xo X D k (some (.int (xi res))) (wX ad k S)) X 2 0 [(0, .ref (ad 40)), (1, .int (xi p1))] [] (wX ad k S)
  unfold m_X5_lengthOf at hM
  refine xj_iload_n C 1 dX5_lengthOf_0 rfl rfl ?_
  obtain ⟨g1, hM⟩ := xck_some hM
  refine xj_if_lt C (tgt := 10) dX5_lengthOf_1 (by decide) g1 (fun c2 => ?_) (fun c2 => ?_)
  · have hM := xit hM c2
    refine xj_iconst C dX5_lengthOf_10 ?_
    refine xj_goto C (tgt := 20) dX5_lengthOf_11 (by decide) ?_
    obtain rfl := Option.some.inj hM
    exact xj_iret C rfl dX5_lengthOf_20
  · have hM := xif hM c2
    refine xj_iload_n C 1 dX5_lengthOf_4 rfl rfl ?_
    refine xj_bipush C (n := 52) (by decide) dX5_lengthOf_5 ?_
    refine xj_icmp_lt C (tgt := 14) dX5_lengthOf_7 (by decide) ⟨g1, (by decide)⟩ (fun c3 => ?_) (fun c3 => ?_)
    · have hM := xit hM c3
      refine xj_aload_n C 0 dX5_lengthOf_14 rfl rfl ?_
      refine xj_get C (fun _ h => List.mem_cons_of_mem _ (List.mem_append_right _ h)) 40 (eX_40 ad k S) rfl 5 (by decide) (List.mem_of_getElem? (i := 1) rfl) (fun _ _ h => h) rfl dX5_lengthOf_15 ?_
      refine xj_iload_n C 1 dX5_lengthOf_18 rfl rfl ?_
      obtain ⟨g4, hM⟩ := xck_some hM
      refine xj_iald C 30 S 30 (eX_30 ad k S) (Nat.le_of_ble_eq_true rfl) g4 dX5_lengthOf_19 ?_
      obtain rfl := Option.some.inj hM
      exact xj_iret C rfl dX5_lengthOf_20
    · have hM := xif hM c3
      refine xj_iconst C dX5_lengthOf_10 ?_
      refine xj_goto C (tgt := 20) dX5_lengthOf_11 (by decide) ?_
      obtain rfl := Option.some.inj hM
      exact xj_iret C rfl dX5_lengthOf_20
def rmX5_sumUp : Room := { frames := 0, cells := 0, slots := 0, locals := 0 }
theorem hv_X5_sumUp : yX5_sumUp.cls = RX5 ∧ yX5_sumUp.cls ≠ "java/lang/invoke/MethodHandle" ∧ yX5_sumUp.cls ≠ "java/lang/invoke/VarHandle" ∧ (parseMethodDescriptor yX5_sumUp.desc).map (fun d => d.parameters.length) = some 0 := by decide +kernel
def m_X5_sumUp_L13 (p2 : Int) (S : xS) : Nat → Int → Int → Option (Int)
  | 0, _, _ => none
  | n + 1, v1, v3 => xck (xr v3) (if 48 ≤ v3 then some v1 else xck (0 ≤ p2 ∧ p2 < 16) ((some ((((Int64.ofInt (S 26 p2)) >>> ((xi v3).toInt64 &&& 63)) &&& (1 : Int64)).toInt32.toInt)).bind (fun x6 => ((if (xb_ixor (xb_iand (xb_ishr v1 15) 1) x6) = 1 then some (xb_ixor (xb_iand (xb_ishl v1 1) 65535) 4129) else some (xb_iand (xb_ishl v1 1) 65535))).bind (fun r7 => m_X5_sumUp_L13 p2 S n r7 (v3 + 1)))))
def m_X5_sumUp_L5 (S : xS) : Nat → Int → Int → Option (Int)
  | 0, _, _ => none
  | n + 1, v1, v2 => xck (xr v2) (if 16 ≤ v2 then some v1 else (m_X5_sumUp_L13 v2 S 2000 v1 0).bind (fun r9 => m_X5_sumUp_L5 S n r9 (v2 + 1)))
def m_X5_sumUp (S : xS) : Option (Int) := (m_X5_sumUp_L5 S 2000 65535 0).bind (fun r10 => some r10)
set_option maxRecDepth 100000 in
set_option maxHeartbeats 4000000 in
theorem j_X5_sumUp_L13 {l : Launch} {D : va_G} {k : Nat → ClassId} {ad : Nat → Nat} {o : xO} {X : xX} (C : xC D k o X cX5_sumUp 6 RX5 wsX5_sumUp (some .int) rmX5_sumUp) (p2 : Int) (S : xS) : ∀ (n : Nat) (v1 : Int) (v3 : Int) (r : Int), m_X5_sumUp_L13 p2 S n v1 v3 = some r → (xJ l D k o X 6 72 [(0, .ref (ad 40)), (1, .int (xi r)), (2, .int (xi p2))] [] (wX ad k S)) → xJ l D k o X 6 13 [(0, .ref (ad 40)), (1, .int (xi v1)), (2, .int (xi p2)), (3, .int (xi v3))] [] (wX ad k S) := by
  intro n
  induction n with
  | zero =>
    intro v1 v3 r hM
    cases hM
  | succ n ih =>
    intro v1 v3 r hM K
    unfold m_X5_sumUp_L13 at hM
    refine xj_iload_n C 3 dX5_sumUp_13 rfl rfl ?_
    refine xj_bipush C (n := 48) (by decide) dX5_sumUp_14 ?_
    obtain ⟨g3, hM⟩ := xck_some hM
    refine xj_icmp_ge C (tgt := 72) dX5_sumUp_16 (by decide) ⟨g3, (by decide)⟩ (fun c4 => ?_) (fun c4 => ?_)
    · have hM := xit hM c4
      obtain rfl := Option.some.inj hM
      refine xj_loc C [0, 1, 2] (L1 := [(0, .ref (ad 40)), (1, .int (xi v1)), (2, .int (xi p2))]) rfl ?_
      exact K
    · have hM := xif hM c4
      refine xj_aload_n C 0 dX5_sumUp_19 rfl rfl ?_
      refine xj_get C (fun _ h => List.mem_cons_of_mem _ (List.mem_append_right _ h)) 40 (eX_40 ad k S) rfl 1 (by decide) (List.mem_of_getElem? (i := 2) rfl) (fun _ _ h => h) rfl dX5_sumUp_20 ?_
      refine xj_iload_n C 2 dX5_sumUp_23 rfl rfl ?_
      obtain ⟨g5, hM⟩ := xck_some hM
      refine xj_lald C 26 S 26 (eX_26 ad k S) (Nat.le_of_ble_eq_true rfl) g5 dX5_sumUp_24 ?_
      refine xj_iload_n C 3 dX5_sumUp_25 rfl rfl ?_
      refine xj_lshr C dX5_sumUp_26 ?_
      refine xj_lconst C (v := 1) rfl dX5_sumUp_27 ?_
      refine xj_land C dX5_sumUp_28 ?_
      refine xj_l2i C dX5_sumUp_29 ?_
      obtain ⟨x6, hx_x6, hM⟩ := xbd hM
      rw [Option.some.inj hx_x6]
      refine xj_istore C (L1 := [(4, .int (xi x6)), (0, .ref (ad 40)), (1, .int (xi v1)), (2, .int (xi p2)), (3, .int (xi v3))]) dX5_sumUp_30 (by decide) rfl ?_
      refine xj_iload_n C 2 dX5_sumUp_32 rfl rfl ?_
      refine xj_bipush C (n := 15) (by decide) dX5_sumUp_33 ?_
      refine xj_ishr C dX5_sumUp_35 ?_
      refine xj_iconst C dX5_sumUp_36 ?_
      refine xj_iand C dX5_sumUp_37 ?_
      refine xj_iload C 0 dX5_sumUp_38 rfl ?_
      refine xj_ixor C dX5_sumUp_40 ?_
      refine xj_istore C (L1 := [(5, .int (xi (xb_ixor (xb_iand (xb_ishr v1 15) 1) x6))), (4, .int (xi x6)), (0, .ref (ad 40)), (1, .int (xi v1)), (2, .int (xi p2)), (3, .int (xi v3))]) dX5_sumUp_41 (by decide) rfl ?_
      refine xj_iload_n C 3 dX5_sumUp_43 rfl rfl ?_
      refine xj_iconst C dX5_sumUp_44 ?_
      refine xj_ishl C dX5_sumUp_45 ?_
      refine xj_ldc C (n := 65535) (List.mem_of_getElem? (i := 1) rfl) (by decide) dX5_sumUp_46 ?_
      refine xj_iand C dX5_sumUp_48 ?_
      refine xj_istore_n C (L1 := [(1, .int (xi (xb_iand (xb_ishl v1 1) 65535))), (5, .int (xi (xb_ixor (xb_iand (xb_ishr v1 15) 1) x6))), (4, .int (xi x6)), (0, .ref (ad 40)), (2, .int (xi p2)), (3, .int (xi v3))]) dX5_sumUp_49 rfl (by decide) rfl ?_
      refine xj_iload C 1 dX5_sumUp_50 rfl ?_
      refine xj_iconst C dX5_sumUp_52 ?_
      obtain ⟨r7, hRr7, hM⟩ := xbd hM
      have Kr7 : xJ l D k o X 6 65 [(0, .ref (ad 40)), (2, .int (xi p2)), (3, .int (xi v3))] [.int (xi r7)] (wX ad k S) := by
        refine xj_istore_n C (L1 := [(1, .int (xi r7)), (0, .ref (ad 40)), (2, .int (xi p2)), (3, .int (xi v3))]) dX5_sumUp_65 rfl (by decide) rfl ?_
        refine xj_iinc C 3 (L1 := [(3, .int (xi (v3 + 1))), (1, .int (xi r7)), (0, .ref (ad 40)), (2, .int (xi p2))]) dX5_sumUp_66 rfl (by decide) rfl ?_
        refine xj_goto C (tgt := 13) dX5_sumUp_69 (by decide) ?_
        refine xj_loc C [2, 1, 3, 0] (L1 := [(0, .ref (ad 40)), (1, .int (xi r7)), (2, .int (xi p2)), (3, .int (xi (v3 + 1)))]) rfl ?_
        exact ih _ _ _ hM K
      clear hM
      have hM := hRr7
      refine xj_icmp_ne C (tgt := 64) dX5_sumUp_53 (by decide) ⟨(xr_ixor _ _), (by decide)⟩ (fun c8 => ?_) (fun c8 => ?_)
      · have hM := xif hM c8
        refine xj_iload_n C 0 dX5_sumUp_64 rfl rfl ?_
        obtain rfl := Option.some.inj hM
        refine xj_loc C [3, 4, 5] (L1 := [(0, .ref (ad 40)), (2, .int (xi p2)), (3, .int (xi v3))]) rfl ?_
        exact Kr7
      · have hM := xit hM c8
        refine xj_iload_n C 0 dX5_sumUp_56 rfl rfl ?_
        refine xj_sipush C (n := 4129) (by decide) dX5_sumUp_57 ?_
        refine xj_ixor C dX5_sumUp_60 ?_
        refine xj_goto C (tgt := 65) dX5_sumUp_61 (by decide) ?_
        obtain rfl := Option.some.inj hM
        refine xj_loc C [3, 4, 5] (L1 := [(0, .ref (ad 40)), (2, .int (xi p2)), (3, .int (xi v3))]) rfl ?_
        exact Kr7
set_option maxRecDepth 100000 in
set_option maxHeartbeats 4000000 in
theorem j_X5_sumUp_L5 {l : Launch} {D : va_G} {k : Nat → ClassId} {ad : Nat → Nat} {o : xO} {X : xX} (C : xC D k o X cX5_sumUp 6 RX5 wsX5_sumUp (some .int) rmX5_sumUp) (S : xS) : ∀ (n : Nat) (v1 : Int) (v2 : Int) (r : Int), m_X5_sumUp_L5 S n v1 v2 = some r → (xJ l D k o X 6 78 [(1, .int (xi r))] [] (wX ad k S)) → xJ l D k o X 6 5 [(0, .ref (ad 40)), (1, .int (xi v1)), (2, .int (xi v2))] [] (wX ad k S) := by
  intro n
  induction n with
  | zero =>
    intro v1 v2 r hM
    cases hM
  | succ n ih =>
    intro v1 v2 r hM K
    unfold m_X5_sumUp_L5 at hM
    refine xj_iload_n C 2 dX5_sumUp_5 rfl rfl ?_
    refine xj_bipush C (n := 16) (by decide) dX5_sumUp_6 ?_
    obtain ⟨g1, hM⟩ := xck_some hM
    refine xj_icmp_ge C (tgt := 78) dX5_sumUp_8 (by decide) ⟨g1, (by decide)⟩ (fun c2 => ?_) (fun c2 => ?_)
    · have hM := xit hM c2
      obtain rfl := Option.some.inj hM
      refine xj_loc C [1] (L1 := [(1, .int (xi v1))]) rfl ?_
      exact K
    · have hM := xif hM c2
      refine xj_iconst C dX5_sumUp_11 ?_
      refine xj_istore_n C (L1 := [(3, .int (xi 0)), (0, .ref (ad 40)), (1, .int (xi v1)), (2, .int (xi v2))]) dX5_sumUp_12 rfl (by decide) rfl ?_
      obtain ⟨r9, hLr9, hM⟩ := xbd hM
      refine xj_loc C [1, 2, 3, 0] (L1 := [(0, .ref (ad 40)), (1, .int (xi v1)), (2, .int (xi v2)), (3, .int (xi 0))]) rfl ?_
      refine j_X5_sumUp_L13 C v2 S _ _ _ _ hLr9 ?_
      refine xj_iinc C 2 (L1 := [(2, .int (xi (v2 + 1))), (0, .ref (ad 40)), (1, .int (xi r9))]) dX5_sumUp_72 rfl (by decide) rfl ?_
      refine xj_goto C (tgt := 5) dX5_sumUp_75 (by decide) ?_
      refine xj_loc C [1, 2, 0] (L1 := [(0, .ref (ad 40)), (1, .int (xi r9)), (2, .int (xi (v2 + 1)))]) rfl ?_
      exact ih _ _ _ hM K
set_option maxRecDepth 100000 in
set_option maxHeartbeats 4000000 in
theorem c_X5_sumUp {l : Launch} {D : va_G} {k : Nat → ClassId} {ad : Nat → Nat} {S : xS} {res : Int} (hM : m_X5_sumUp S = some res) : xM l yX5_sumUp wsX5_sumUp rmX5_sumUp D k [.ref (ad 40)] (wX ad k S) (some (.int (xi res))) (wX ad k S) := by
  refine xM_of (ret := (some .int)) (by decide) rfl (Nat.le_of_ble_eq_true rfl) (fun X C => ?_)
  have C : xC D k (xo X D k (some (.int (xi res))) (wX ad k S)) X cX5_sumUp 6 RX5 wsX5_sumUp (some .int) rmX5_sumUp := C
  show xJ l D k (xo X D k (some (.int (xi res))) (wX ad k S)) X 6 0 [(0, .ref (ad 40))] [] (wX ad k S)
  unfold m_X5_sumUp at hM
  refine xj_ldc C (n := 65535) (List.mem_of_getElem? (i := 1) rfl) (by decide) dX5_sumUp_0 ?_
  refine xj_istore_n C (L1 := [(1, .int (xi 65535)), (0, .ref (ad 40))]) dX5_sumUp_2 rfl (by decide) rfl ?_
  refine xj_iconst C dX5_sumUp_3 ?_
  refine xj_istore_n C (L1 := [(2, .int (xi 0)), (1, .int (xi 65535)), (0, .ref (ad 40))]) dX5_sumUp_4 rfl (by decide) rfl ?_
  obtain ⟨r10, hLr10, hM⟩ := xbd hM
  refine xj_loc C [2, 1, 0] (L1 := [(0, .ref (ad 40)), (1, .int (xi 65535)), (2, .int (xi 0))]) rfl ?_
  refine j_X5_sumUp_L5 C S _ _ _ _ hLr10 ?_
  refine xj_iload_n C 0 dX5_sumUp_78 rfl rfl ?_
  obtain rfl := Option.some.inj hM
  exact xj_iret C rfl dX5_sumUp_79
def rmX5_restart : Room := { frames := 2, cells := 0, slots := 0, locals := 42 }
theorem hv_X5_restart : yX5_restart.cls = RX5 ∧ yX5_restart.cls ≠ "java/lang/invoke/MethodHandle" ∧ yX5_restart.cls ≠ "java/lang/invoke/VarHandle" ∧ (parseMethodDescriptor yX5_restart.desc).map (fun d => d.parameters.length) = some 0 := by decide +kernel
def m_X5_restart_L2 : Nat → Int → xS → Option (xS)
  | 0, _, _ => none
  | n + 1, v1, S => xck (xr v1) (if 16 ≤ v1 then some S else (m_X5_hasRegister v1 S).bind (fun r3 => (xck (xr r3) (if r3 = 0 then some 0 else xck (0 ≤ v1 ∧ v1 < 16) (some ((((Int64.ofInt (S 26 v1)) >>> ((xi 9).toInt64 &&& 63)) &&& (1 : Int64)).toInt32.toInt)))).bind (fun r4 => xck (0 ≤ v1 ∧ v1 < 16) (m_X5_restart_L2 n (v1 + 1) (xup S 27 v1 r4)))))
def m_X5_restart (S : xS) : Option (xS) := (m_X5_restart_L2 2000 0 S).bind (fun r9 => some r9)
set_option maxRecDepth 100000 in
set_option maxHeartbeats 4000000 in
theorem j_X5_restart_L2 {l : Launch} {D : va_G} {k : Nat → ClassId} {ad : Nat → Nat} {o : xO} {X : xX} (C : xC D k o X cX5_restart 2 RX5 wsX5_restart none rmX5_restart) : ∀ (n : Nat) (v1 : Int) (S : xS) (r : xS), m_X5_restart_L2 n v1 S = some r → (xJ l D k o X 2 44 [] [] (wX ad k r)) → xJ l D k o X 2 2 [(0, .ref (ad 40)), (1, .int (xi v1))] [] (wX ad k S) := by
  intro n
  induction n with
  | zero =>
    intro v1 S r hM
    cases hM
  | succ n ih =>
    intro v1 S r hM K
    unfold m_X5_restart_L2 at hM
    refine xj_iload_n C 1 dX5_restart_2 rfl rfl ?_
    refine xj_bipush C (n := 16) (by decide) dX5_restart_3 ?_
    obtain ⟨g1, hM⟩ := xck_some hM
    refine xj_icmp_ge C (tgt := 44) dX5_restart_5 (by decide) ⟨g1, (by decide)⟩ (fun c2 => ?_) (fun c2 => ?_)
    · have hM := xit hM c2
      obtain rfl := Option.some.inj hM
      refine xj_loc C [] (L1 := []) rfl ?_
      exact K
    · have hM := xif hM c2
      refine xj_aload_n C 0 dX5_restart_8 rfl rfl ?_
      refine xj_get C (fun _ h => List.mem_cons_of_mem _ (List.mem_append_right _ h)) 40 (eX_40 ad k S) rfl 2 (by decide) (List.mem_of_getElem? (i := 1) rfl) (fun _ _ h => h) rfl dX5_restart_9 ?_
      refine xj_iload_n C 1 dX5_restart_12 rfl rfl ?_
      refine xj_aload_n C 0 dX5_restart_13 rfl rfl ?_
      refine xj_iload_n C 1 dX5_restart_14 rfl rfl ?_
      obtain ⟨r3, hRr3, hM⟩ := xbd hM
      refine xj_callV C [.int (xi v1)] [.int (xi v1), .ref (ad 27)] 1 (c_X5_hasRegister hRr3) gX5_restart_X5_hasRegister rfl ⟨rfl, rfl⟩ hv_X5_hasRegister ⟨Nat.le_of_ble_eq_true rfl, Nat.le_of_ble_eq_true rfl⟩ 40 (eX_40 ad k _) rfl rfl (Nat.le_of_ble_eq_true rfl) dX5_restart_15 ?_
      obtain ⟨r4, hRr4, hM⟩ := xbd hM
      have Kr4 : xJ l D k o X 2 37 [(0, .ref (ad 40)), (1, .int (xi v1))] [.int (xi r4), .int (xi v1), .ref (ad 27)] (wX ad k S) := by
        obtain ⟨g8, hM⟩ := xck_some hM
        refine xj_iast C 27 S 27 (eX_27 ad k S) (Nat.le_of_ble_eq_true rfl) g8 (sX_27 ad k S v1 r4) dX5_restart_37 ?_
        refine xj_iinc C 1 (L1 := [(1, .int (xi (v1 + 1))), (0, .ref (ad 40))]) dX5_restart_38 rfl (by decide) rfl ?_
        refine xj_goto C (tgt := 2) dX5_restart_41 (by decide) ?_
        refine xj_loc C [1, 0] (L1 := [(0, .ref (ad 40)), (1, .int (xi (v1 + 1)))]) rfl ?_
        exact ih _ _ _ hM K
      clear hM
      have hM := hRr4
      obtain ⟨g5, hM⟩ := xck_some hM
      refine xj_if_eq C (tgt := 36) dX5_restart_18 (by decide) g5 (fun c6 => ?_) (fun c6 => ?_)
      · have hM := xit hM c6
        refine xj_iconst C dX5_restart_36 ?_
        obtain rfl := Option.some.inj hM
        exact Kr4
      · have hM := xif hM c6
        refine xj_aload_n C 0 dX5_restart_21 rfl rfl ?_
        refine xj_get C (fun _ h => List.mem_cons_of_mem _ (List.mem_append_right _ h)) 40 (eX_40 ad k S) rfl 1 (by decide) (List.mem_of_getElem? (i := 2) rfl) (fun _ _ h => h) rfl dX5_restart_22 ?_
        refine xj_iload_n C 1 dX5_restart_25 rfl rfl ?_
        obtain ⟨g7, hM⟩ := xck_some hM
        refine xj_lald C 26 S 26 (eX_26 ad k S) (Nat.le_of_ble_eq_true rfl) g7 dX5_restart_26 ?_
        refine xj_bipush C (n := 9) (by decide) dX5_restart_27 ?_
        refine xj_lshr C dX5_restart_29 ?_
        refine xj_lconst C (v := 1) rfl dX5_restart_30 ?_
        refine xj_land C dX5_restart_31 ?_
        refine xj_l2i C dX5_restart_32 ?_
        refine xj_goto C (tgt := 37) dX5_restart_33 (by decide) ?_
        obtain rfl := Option.some.inj hM
        exact Kr4
set_option maxRecDepth 100000 in
set_option maxHeartbeats 4000000 in
theorem c_X5_restart {l : Launch} {D : va_G} {k : Nat → ClassId} {ad : Nat → Nat} {S : xS} {res : xS} (hM : m_X5_restart S = some res) : xM l yX5_restart wsX5_restart rmX5_restart D k [.ref (ad 40)] (wX ad k S) none (wX ad k res) := by
  refine xM_of (ret := none) (by decide) rfl (Nat.le_of_ble_eq_true rfl) (fun X C => ?_)
  have C : xC D k (xo X D k none (wX ad k res)) X cX5_restart 2 RX5 wsX5_restart none rmX5_restart := C
  show xJ l D k (xo X D k none (wX ad k res)) X 2 0 [(0, .ref (ad 40))] [] (wX ad k S)
  unfold m_X5_restart at hM
  refine xj_iconst C dX5_restart_0 ?_
  refine xj_istore_n C (L1 := [(1, .int (xi 0)), (0, .ref (ad 40))]) dX5_restart_1 rfl (by decide) rfl ?_
  obtain ⟨r9, hLr9, hM⟩ := xbd hM
  refine xj_loc C [1, 0] (L1 := [(0, .ref (ad 40)), (1, .int (xi 0))]) rfl ?_
  refine j_X5_restart_L2 C _ _ _ _ hLr9 ?_
  obtain rfl := Option.some.inj hM
  exact xj_vret C rfl dX5_restart_44
def rmX5_valueAt : Room := { frames := 1, cells := 0, slots := 0, locals := 21 }
theorem hv_X5_valueAt : yX5_valueAt.cls = RX5 ∧ yX5_valueAt.cls ≠ "java/lang/invoke/MethodHandle" ∧ yX5_valueAt.cls ≠ "java/lang/invoke/VarHandle" ∧ (parseMethodDescriptor yX5_valueAt.desc).map (fun d => d.parameters.length) = some 2 := by decide +kernel
def m_X5_valueAt (p1 : Int) (p2 : Int) (S : xS) : Option (Int) := (m_X5_originOf p1 S).bind (fun r1 => xck (xr r1) (if 0 ≤ r1 then (if 16 ≤ r1 then some (xb_iand (xb_ishr p2 (r1 - 16)) 1) else xck (0 ≤ r1 ∧ r1 < 16) (some (S 27 r1))) else some 0))
set_option maxRecDepth 100000 in
set_option maxHeartbeats 4000000 in
theorem c_X5_valueAt {l : Launch} {D : va_G} {k : Nat → ClassId} {ad : Nat → Nat} {S : xS} {p1 : Int} {p2 : Int} {res : Int} (hM : m_X5_valueAt p1 p2 S = some res) : xM l yX5_valueAt wsX5_valueAt rmX5_valueAt D k [.ref (ad 40), .int (xi p1), .int (xi p2)] (wX ad k S) (some (.int (xi res))) (wX ad k S) := by
  refine xM_of (ret := (some .int)) (by decide) rfl (Nat.le_of_ble_eq_true rfl) (fun X C => ?_)
  have C : xC D k (xo X D k (some (.int (xi res))) (wX ad k S)) X cX5_valueAt 4 RX5 wsX5_valueAt (some .int) rmX5_valueAt := C
  show xJ l D k (xo X D k (some (.int (xi res))) (wX ad k S)) X 4 0 [(0, .ref (ad 40)), (1, .int (xi p1)), (2, .int (xi p2))] [] (wX ad k S)
  unfold m_X5_valueAt at hM
  refine xj_aload_n C 0 dX5_valueAt_0 rfl rfl ?_
  refine xj_iload_n C 1 dX5_valueAt_1 rfl rfl ?_
  obtain ⟨r1, hRr1, hM⟩ := xbd hM
  refine xj_callV C [.int (xi p1)] [] 1 (c_X5_originOf hRr1) gX5_valueAt_X5_originOf rfl ⟨rfl, rfl⟩ hv_X5_originOf ⟨Nat.le_of_ble_eq_true rfl, Nat.le_of_ble_eq_true rfl⟩ 40 (eX_40 ad k _) rfl rfl (Nat.le_of_ble_eq_true rfl) dX5_valueAt_2 ?_
  refine xj_istore_n C (L1 := [(3, .int (xi r1)), (0, .ref (ad 40)), (1, .int (xi p1)), (2, .int (xi p2))]) dX5_valueAt_5 rfl (by decide) rfl ?_
  refine xj_iload_n C 0 dX5_valueAt_6 rfl rfl ?_
  obtain ⟨g2, hM⟩ := xck_some hM
  refine xj_if_ge C (tgt := 12) dX5_valueAt_7 (by decide) g2 (fun c3 => ?_) (fun c3 => ?_)
  · have hM := xit hM c3
    refine xj_iload_n C 0 dX5_valueAt_12 rfl rfl ?_
    refine xj_bipush C (n := 16) (by decide) dX5_valueAt_13 ?_
    refine xj_icmp_ge C (tgt := 27) dX5_valueAt_15 (by decide) ⟨g2, (by decide)⟩ (fun c4 => ?_) (fun c4 => ?_)
    · have hM := xit hM c4
      refine xj_iload_n C 3 dX5_valueAt_27 rfl rfl ?_
      refine xj_iload_n C 0 dX5_valueAt_28 rfl rfl ?_
      refine xj_bipush C (n := 16) (by decide) dX5_valueAt_29 ?_
      refine xj_isub C dX5_valueAt_31 ?_
      refine xj_ishr C dX5_valueAt_32 ?_
      refine xj_iconst C dX5_valueAt_33 ?_
      refine xj_iand C dX5_valueAt_34 ?_
      obtain rfl := Option.some.inj hM
      exact xj_iret C rfl dX5_valueAt_35
    · have hM := xif hM c4
      refine xj_aload_n C 1 dX5_valueAt_18 rfl rfl ?_
      refine xj_get C (fun _ h => List.mem_cons_of_mem _ (List.mem_append_right _ h)) 40 (eX_40 ad k S) rfl 2 (by decide) (List.mem_of_getElem? (i := 1) rfl) (fun _ _ h => h) rfl dX5_valueAt_19 ?_
      refine xj_iload_n C 0 dX5_valueAt_22 rfl rfl ?_
      obtain ⟨g5, hM⟩ := xck_some hM
      refine xj_iald C 27 S 27 (eX_27 ad k S) (Nat.le_of_ble_eq_true rfl) g5 dX5_valueAt_23 ?_
      refine xj_goto C (tgt := 35) dX5_valueAt_24 (by decide) ?_
      obtain rfl := Option.some.inj hM
      exact xj_iret C rfl dX5_valueAt_35
  · have hM := xif hM c3
    refine xj_iconst C dX5_valueAt_10 ?_
    obtain rfl := Option.some.inj hM
    exact xj_iret C rfl dX5_valueAt_11
def rmX5_tableGives : Room := { frames := 2, cells := 0, slots := 0, locals := 44 }
theorem hv_X5_tableGives : yX5_tableGives.cls = RX5 ∧ yX5_tableGives.cls ≠ "java/lang/invoke/MethodHandle" ∧ yX5_tableGives.cls ≠ "java/lang/invoke/VarHandle" ∧ (parseMethodDescriptor yX5_tableGives.desc).map (fun d => d.parameters.length) = some 2 := by decide +kernel
def m_X5_tableGives_L5 (p1 : Int) (p2 : Int) (S : xS) : Nat → Int → Int → Option (Int)
  | 0, _, _ => none
  | n + 1, v3, v4 => xck (xr v4) (if 3 ≤ v4 then some v3 else (m_X5_valueAt ((p1 * 3) + v4) p2 S).bind (fun r3 => m_X5_tableGives_L5 p1 p2 S n (xb_ior v3 (xb_ishl r3 v4)) (v4 + 1)))
def m_X5_tableGives (p1 : Int) (p2 : Int) (S : xS) : Option (Int) := (m_X5_tableGives_L5 p1 p2 S 2000 0 0).bind (fun r4 => xck (0 ≤ p1 ∧ p1 < 16) (some ((((Int64.ofInt (S 26 p1)) >>> ((xi r4).toInt64 &&& 63)) &&& (1 : Int64)).toInt32.toInt)))
set_option maxRecDepth 100000 in
set_option maxHeartbeats 4000000 in
theorem j_X5_tableGives_L5 {l : Launch} {D : va_G} {k : Nat → ClassId} {ad : Nat → Nat} {o : xO} {X : xX} (C : xC D k o X cX5_tableGives 5 RX5 wsX5_tableGives (some .int) rmX5_tableGives) (p1 : Int) (p2 : Int) (S : xS) : ∀ (n : Nat) (v3 : Int) (v4 : Int) (r : Int), m_X5_tableGives_L5 p1 p2 S n v3 v4 = some r → (xJ l D k o X 5 34 [(0, .ref (ad 40)), (1, .int (xi p1)), (3, .int (xi r))] [] (wX ad k S)) → xJ l D k o X 5 5 [(0, .ref (ad 40)), (1, .int (xi p1)), (2, .int (xi p2)), (3, .int (xi v3)), (4, .int (xi v4))] [] (wX ad k S) := by
  intro n
  induction n with
  | zero =>
    intro v3 v4 r hM
    cases hM
  | succ n ih =>
    intro v3 v4 r hM K
    unfold m_X5_tableGives_L5 at hM
    refine xj_iload C 4 dX5_tableGives_5 rfl ?_
    refine xj_iconst C dX5_tableGives_7 ?_
    obtain ⟨g1, hM⟩ := xck_some hM
    refine xj_icmp_ge C (tgt := 34) dX5_tableGives_8 (by decide) ⟨g1, (by decide)⟩ (fun c2 => ?_) (fun c2 => ?_)
    · have hM := xit hM c2
      obtain rfl := Option.some.inj hM
      refine xj_loc C [0, 1, 3] (L1 := [(0, .ref (ad 40)), (1, .int (xi p1)), (3, .int (xi v3))]) rfl ?_
      exact K
    · have hM := xif hM c2
      refine xj_iload_n C 3 dX5_tableGives_11 rfl rfl ?_
      refine xj_aload_n C 0 dX5_tableGives_12 rfl rfl ?_
      refine xj_iload_n C 1 dX5_tableGives_13 rfl rfl ?_
      refine xj_iconst C dX5_tableGives_14 ?_
      refine xj_imul C dX5_tableGives_15 ?_
      refine xj_iload C 4 dX5_tableGives_16 rfl ?_
      refine xj_iadd C dX5_tableGives_18 ?_
      refine xj_iload_n C 2 dX5_tableGives_19 rfl rfl ?_
      obtain ⟨r3, hRr3, hM⟩ := xbd hM
      refine xj_callV C [.int (xi ((p1 * 3) + v4)), .int (xi p2)] [.int (xi v3)] 2 (c_X5_valueAt hRr3) gX5_tableGives_X5_valueAt rfl ⟨rfl, rfl⟩ hv_X5_valueAt ⟨Nat.le_of_ble_eq_true rfl, Nat.le_of_ble_eq_true rfl⟩ 40 (eX_40 ad k _) rfl rfl (Nat.le_of_ble_eq_true rfl) dX5_tableGives_20 ?_
      refine xj_iload C 4 dX5_tableGives_23 rfl ?_
      refine xj_ishl C dX5_tableGives_25 ?_
      refine xj_ior C dX5_tableGives_26 ?_
      refine xj_istore_n C (L1 := [(3, .int (xi (xb_ior v3 (xb_ishl r3 v4)))), (0, .ref (ad 40)), (1, .int (xi p1)), (2, .int (xi p2)), (4, .int (xi v4))]) dX5_tableGives_27 rfl (by decide) rfl ?_
      refine xj_iinc C 4 (L1 := [(4, .int (xi (v4 + 1))), (3, .int (xi (xb_ior v3 (xb_ishl r3 v4)))), (0, .ref (ad 40)), (1, .int (xi p1)), (2, .int (xi p2))]) dX5_tableGives_28 rfl (by decide) rfl ?_
      refine xj_goto C (tgt := 5) dX5_tableGives_31 (by decide) ?_
      refine xj_loc C [2, 3, 4, 1, 0] (L1 := [(0, .ref (ad 40)), (1, .int (xi p1)), (2, .int (xi p2)), (3, .int (xi (xb_ior v3 (xb_ishl r3 v4)))), (4, .int (xi (v4 + 1)))]) rfl ?_
      exact ih _ _ _ hM K
set_option maxRecDepth 100000 in
set_option maxHeartbeats 4000000 in
theorem c_X5_tableGives {l : Launch} {D : va_G} {k : Nat → ClassId} {ad : Nat → Nat} {S : xS} {p1 : Int} {p2 : Int} {res : Int} (hM : m_X5_tableGives p1 p2 S = some res) : xM l yX5_tableGives wsX5_tableGives rmX5_tableGives D k [.ref (ad 40), .int (xi p1), .int (xi p2)] (wX ad k S) (some (.int (xi res))) (wX ad k S) := by
  refine xM_of (ret := (some .int)) (by decide) rfl (Nat.le_of_ble_eq_true rfl) (fun X C => ?_)
  have C : xC D k (xo X D k (some (.int (xi res))) (wX ad k S)) X cX5_tableGives 5 RX5 wsX5_tableGives (some .int) rmX5_tableGives := C
  show xJ l D k (xo X D k (some (.int (xi res))) (wX ad k S)) X 5 0 [(0, .ref (ad 40)), (1, .int (xi p1)), (2, .int (xi p2))] [] (wX ad k S)
  unfold m_X5_tableGives at hM
  refine xj_iconst C dX5_tableGives_0 ?_
  refine xj_istore_n C (L1 := [(3, .int (xi 0)), (0, .ref (ad 40)), (1, .int (xi p1)), (2, .int (xi p2))]) dX5_tableGives_1 rfl (by decide) rfl ?_
  refine xj_iconst C dX5_tableGives_2 ?_
  refine xj_istore C (L1 := [(4, .int (xi 0)), (3, .int (xi 0)), (0, .ref (ad 40)), (1, .int (xi p1)), (2, .int (xi p2))]) dX5_tableGives_3 (by decide) rfl ?_
  obtain ⟨r4, hLr4, hM⟩ := xbd hM
  refine xj_loc C [2, 3, 4, 1, 0] (L1 := [(0, .ref (ad 40)), (1, .int (xi p1)), (2, .int (xi p2)), (3, .int (xi 0)), (4, .int (xi 0))]) rfl ?_
  refine j_X5_tableGives_L5 C p1 p2 S _ _ _ _ hLr4 ?_
  refine xj_aload_n C 0 dX5_tableGives_34 rfl rfl ?_
  refine xj_get C (fun _ h => List.mem_cons_of_mem _ (List.mem_append_right _ h)) 40 (eX_40 ad k S) rfl 1 (by decide) (List.mem_of_getElem? (i := 1) rfl) (fun _ _ h => h) rfl dX5_tableGives_35 ?_
  refine xj_iload_n C 1 dX5_tableGives_38 rfl rfl ?_
  obtain ⟨g5, hM⟩ := xck_some hM
  refine xj_lald C 26 S 26 (eX_26 ad k S) (Nat.le_of_ble_eq_true rfl) g5 dX5_tableGives_39 ?_
  refine xj_iload_n C 2 dX5_tableGives_40 rfl rfl ?_
  refine xj_lshr C dX5_tableGives_41 ?_
  refine xj_lconst C (v := 1) rfl dX5_tableGives_42 ?_
  refine xj_land C dX5_tableGives_43 ?_
  refine xj_l2i C dX5_tableGives_44 ?_
  obtain rfl := Option.some.inj hM
  exact xj_iret C rfl dX5_tableGives_45
def rmX5_stepRegisters : Room := { frames := 3, cells := 0, slots := 0, locals := 68 }
theorem hv_X5_stepRegisters : yX5_stepRegisters.cls = RX5 ∧ yX5_stepRegisters.cls ≠ "java/lang/invoke/MethodHandle" ∧ yX5_stepRegisters.cls ≠ "java/lang/invoke/VarHandle" ∧ (parseMethodDescriptor yX5_stepRegisters.desc).map (fun d => d.parameters.length) = some 1 := by decide +kernel
def m_X5_stepRegisters_L2 (p1 : Int) : Nat → Int → xS → Option (xS)
  | 0, _, _ => none
  | n + 1, v2, S => xck (xr v2) (if 16 ≤ v2 then some S else (m_X5_hasRegister v2 S).bind (fun r3 => (xck (xr r3) (if r3 = 0 then xck (0 ≤ v2 ∧ v2 < 16) (some (S 27 v2)) else (m_X5_tableGives v2 p1 S).bind (fun r8 => some r8))).bind (fun r4 => xck (0 ≤ v2 ∧ v2 < 16) (m_X5_stepRegisters_L2 p1 n (v2 + 1) (xup S 28 v2 r4)))))
def m_X5_stepRegisters (p1 : Int) (S : xS) : Option (xS) := (m_X5_stepRegisters_L2 p1 2000 0 S).bind (fun r10 => some (xcp r10 28 27 16))
set_option maxRecDepth 100000 in
set_option maxHeartbeats 4000000 in
theorem j_X5_stepRegisters_L2 {l : Launch} {D : va_G} {k : Nat → ClassId} {ad : Nat → Nat} {o : xO} {X : xX} (C : xC D k o X cX5_stepRegisters 3 RX5 wsX5_stepRegisters none rmX5_stepRegisters) (p1 : Int) : ∀ (n : Nat) (v2 : Int) (S : xS) (r : xS), m_X5_stepRegisters_L2 p1 n v2 S = some r → (xJ l D k o X 3 43 [(0, .ref (ad 40))] [] (wX ad k r)) → xJ l D k o X 3 2 [(0, .ref (ad 40)), (1, .int (xi p1)), (2, .int (xi v2))] [] (wX ad k S) := by
  intro n
  induction n with
  | zero =>
    intro v2 S r hM
    cases hM
  | succ n ih =>
    intro v2 S r hM K
    unfold m_X5_stepRegisters_L2 at hM
    refine xj_iload_n C 2 dX5_stepRegisters_2 rfl rfl ?_
    refine xj_bipush C (n := 16) (by decide) dX5_stepRegisters_3 ?_
    obtain ⟨g1, hM⟩ := xck_some hM
    refine xj_icmp_ge C (tgt := 43) dX5_stepRegisters_5 (by decide) ⟨g1, (by decide)⟩ (fun c2 => ?_) (fun c2 => ?_)
    · have hM := xit hM c2
      obtain rfl := Option.some.inj hM
      refine xj_loc C [0] (L1 := [(0, .ref (ad 40))]) rfl ?_
      exact K
    · have hM := xif hM c2
      refine xj_aload_n C 0 dX5_stepRegisters_8 rfl rfl ?_
      refine xj_get C (fun _ h => List.mem_cons_of_mem _ (List.mem_append_right _ h)) 40 (eX_40 ad k S) rfl 3 (by decide) (List.mem_of_getElem? (i := 1) rfl) (fun _ _ h => h) rfl dX5_stepRegisters_9 ?_
      refine xj_iload_n C 2 dX5_stepRegisters_12 rfl rfl ?_
      refine xj_aload_n C 0 dX5_stepRegisters_13 rfl rfl ?_
      refine xj_iload_n C 2 dX5_stepRegisters_14 rfl rfl ?_
      obtain ⟨r3, hRr3, hM⟩ := xbd hM
      refine xj_callV C [.int (xi v2)] [.int (xi v2), .ref (ad 28)] 1 (c_X5_hasRegister hRr3) gX5_stepRegisters_X5_hasRegister rfl ⟨rfl, rfl⟩ hv_X5_hasRegister ⟨Nat.le_of_ble_eq_true rfl, Nat.le_of_ble_eq_true rfl⟩ 40 (eX_40 ad k _) rfl rfl (Nat.le_of_ble_eq_true rfl) dX5_stepRegisters_15 ?_
      obtain ⟨r4, hRr4, hM⟩ := xbd hM
      have Kr4 : xJ l D k o X 3 36 [(0, .ref (ad 40)), (1, .int (xi p1)), (2, .int (xi v2))] [.int (xi r4), .int (xi v2), .ref (ad 28)] (wX ad k S) := by
        obtain ⟨g9, hM⟩ := xck_some hM
        refine xj_iast C 28 S 28 (eX_28 ad k S) (Nat.le_of_ble_eq_true rfl) g9 (sX_28 ad k S v2 r4) dX5_stepRegisters_36 ?_
        refine xj_iinc C 2 (L1 := [(2, .int (xi (v2 + 1))), (0, .ref (ad 40)), (1, .int (xi p1))]) dX5_stepRegisters_37 rfl (by decide) rfl ?_
        refine xj_goto C (tgt := 2) dX5_stepRegisters_40 (by decide) ?_
        refine xj_loc C [1, 2, 0] (L1 := [(0, .ref (ad 40)), (1, .int (xi p1)), (2, .int (xi (v2 + 1)))]) rfl ?_
        exact ih _ _ _ hM K
      clear hM
      have hM := hRr4
      obtain ⟨g5, hM⟩ := xck_some hM
      refine xj_if_eq C (tgt := 30) dX5_stepRegisters_18 (by decide) g5 (fun c6 => ?_) (fun c6 => ?_)
      · have hM := xit hM c6
        refine xj_aload_n C 0 dX5_stepRegisters_30 rfl rfl ?_
        refine xj_get C (fun _ h => List.mem_cons_of_mem _ (List.mem_append_right _ h)) 40 (eX_40 ad k S) rfl 2 (by decide) (List.mem_of_getElem? (i := 2) rfl) (fun _ _ h => h) rfl dX5_stepRegisters_31 ?_
        refine xj_iload_n C 2 dX5_stepRegisters_34 rfl rfl ?_
        obtain ⟨g7, hM⟩ := xck_some hM
        refine xj_iald C 27 S 27 (eX_27 ad k S) (Nat.le_of_ble_eq_true rfl) g7 dX5_stepRegisters_35 ?_
        obtain rfl := Option.some.inj hM
        exact Kr4
      · have hM := xif hM c6
        refine xj_aload_n C 0 dX5_stepRegisters_21 rfl rfl ?_
        refine xj_iload_n C 2 dX5_stepRegisters_22 rfl rfl ?_
        refine xj_iload_n C 1 dX5_stepRegisters_23 rfl rfl ?_
        obtain ⟨r8, hRr8, hM⟩ := xbd hM
        refine xj_callV C [.int (xi v2), .int (xi p1)] [.int (xi v2), .ref (ad 28)] 2 (c_X5_tableGives hRr8) gX5_stepRegisters_X5_tableGives rfl ⟨rfl, rfl⟩ hv_X5_tableGives ⟨Nat.le_of_ble_eq_true rfl, Nat.le_of_ble_eq_true rfl⟩ 40 (eX_40 ad k _) rfl rfl (Nat.le_of_ble_eq_true rfl) dX5_stepRegisters_24 ?_
        refine xj_goto C (tgt := 36) dX5_stepRegisters_27 (by decide) ?_
        obtain rfl := Option.some.inj hM
        exact Kr4
set_option maxRecDepth 100000 in
set_option maxHeartbeats 4000000 in
theorem c_X5_stepRegisters {l : Launch} {D : va_G} {k : Nat → ClassId} {ad : Nat → Nat} {S : xS} {p1 : Int} {res : xS} (hM : m_X5_stepRegisters p1 S = some res) : xM l yX5_stepRegisters wsX5_stepRegisters rmX5_stepRegisters D k [.ref (ad 40), .int (xi p1)] (wX ad k S) none (wX ad k res) := by
  refine xM_of (ret := none) (by decide) rfl (Nat.le_of_ble_eq_true rfl) (fun X C => ?_)
  have C : xC D k (xo X D k none (wX ad k res)) X cX5_stepRegisters 3 RX5 wsX5_stepRegisters none rmX5_stepRegisters := C
  show xJ l D k (xo X D k none (wX ad k res)) X 3 0 [(0, .ref (ad 40)), (1, .int (xi p1))] [] (wX ad k S)
  unfold m_X5_stepRegisters at hM
  refine xj_iconst C dX5_stepRegisters_0 ?_
  refine xj_istore_n C (L1 := [(2, .int (xi 0)), (0, .ref (ad 40)), (1, .int (xi p1))]) dX5_stepRegisters_1 rfl (by decide) rfl ?_
  obtain ⟨r10, hLr10, hM⟩ := xbd hM
  refine xj_loc C [1, 2, 0] (L1 := [(0, .ref (ad 40)), (1, .int (xi p1)), (2, .int (xi 0))]) rfl ?_
  refine j_X5_stepRegisters_L2 C p1 _ _ _ _ hLr10 ?_
  refine xj_aload_n C 0 dX5_stepRegisters_43 rfl rfl ?_
  refine xj_get C (fun _ h => List.mem_cons_of_mem _ (List.mem_append_right _ h)) 40 (eX_40 ad k r10) rfl 3 (by decide) (List.mem_of_getElem? (i := 1) rfl) (fun _ _ h => h) rfl dX5_stepRegisters_44 ?_
  refine xj_iconst C dX5_stepRegisters_47 ?_
  refine xj_aload_n C 0 dX5_stepRegisters_48 rfl rfl ?_
  refine xj_get C (fun _ h => List.mem_cons_of_mem _ (List.mem_append_right _ h)) 40 (eX_40 ad k r10) rfl 2 (by decide) (List.mem_of_getElem? (i := 2) rfl) (fun _ _ h => h) rfl dX5_stepRegisters_49 ?_
  refine xj_iconst C dX5_stepRegisters_52 ?_
  refine xj_bipush C (n := 16) (by decide) dX5_stepRegisters_53 ?_
  refine xj_copy C 28 27 (eX_28 ad k r10) (eX_27 ad k r10) (by decide) (Nat.le_of_ble_eq_true rfl) (kX_28_27 ad k r10 16 (by decide : (0 : Int) ≤ 16)) (List.mem_of_getElem? (i := 3) rfl) (List.mem_of_getElem? (i := 4) rfl) (List.mem_of_getElem? (i := 5) rfl) (List.mem_of_getElem? (i := 6) rfl) (Nat.le_of_ble_eq_true rfl) (Nat.le_of_ble_eq_true rfl) dX5_stepRegisters_55 ?_
  obtain rfl := Option.some.inj hM
  exact xj_vret C rfl dX5_stepRegisters_58
def rmX5_step : Room := { frames := 4, cells := 0, slots := 0, locals := 90 }
theorem hv_X5_step : yX5_step.cls = RX5 ∧ yX5_step.cls ≠ "java/lang/invoke/MethodHandle" ∧ yX5_step.cls ≠ "java/lang/invoke/VarHandle" ∧ (parseMethodDescriptor yX5_step.desc).map (fun d => d.parameters.length) = some 1 := by decide +kernel
def m_X5_step_L10 (p1 : Int) (p2 : Int) : Nat → Int → xS → Option (xS)
  | 0, _, _ => none
  | n + 1, v3, S => xck (xr v3) (if 16 ≤ v3 then some S else (m_X5_hasRegister v3 S).bind (fun r5 => (xck (xr r5) (if r5 = 0 then (m_X5_tableGives v3 p1 S).bind (fun r9 => some r9) else xck (0 ≤ v3 ∧ v3 < 16) (some (S 27 v3)))).bind (fun r6 => xck (0 ≤ v3 ∧ v3 < 16) (m_X5_step_L10 p1 p2 n (v3 + 1) (xup S 27 v3 r6)))))
def m_X5_step_L2 (p1 : Int) : Nat → Int → xS → Option (xS)
  | 0, _, _ => none
  | n + 1, v2, S => xck (xr v2) (if 16 ≤ v2 then some S else (m_X5_step_L10 p1 v2 2000 0 S).bind (fun r12 => m_X5_step_L2 p1 n (v2 + 1) r12))
def m_X5_step_L61 (p1 : Int) (S : xS) : Nat → Int → Int → Option (Int)
  | 0, _, _ => none
  | n + 1, v2, v3 => xck (xr v3) (if 4 ≤ v3 then some v2 else (m_X5_valueAt (48 + v3) p1 S).bind (fun r16 => m_X5_step_L61 p1 S n (xb_ior v2 (xb_ishl r16 v3)) (v3 + 1)))
def m_X5_step (p1 : Int) (S : xS) : Option (Int × xS) := (m_X5_step_L2 p1 2000 0 S).bind (fun r13 => (m_X5_step_L61 p1 r13 2000 0 0).bind (fun r17 => (m_X5_stepRegisters p1 r13).bind (fun r18 => some (r17, r18))))
set_option maxRecDepth 100000 in
set_option maxHeartbeats 4000000 in
theorem j_X5_step_L10 {l : Launch} {D : va_G} {k : Nat → ClassId} {ad : Nat → Nat} {o : xO} {X : xX} (C : xC D k o X cX5_step 4 RX5 wsX5_step (some .int) rmX5_step) (p1 : Int) (p2 : Int) : ∀ (n : Nat) (v3 : Int) (S : xS) (r : xS), m_X5_step_L10 p1 p2 n v3 S = some r → (xJ l D k o X 4 51 [(0, .ref (ad 40)), (1, .int (xi p1)), (2, .int (xi p2))] [] (wX ad k r)) → xJ l D k o X 4 10 [(0, .ref (ad 40)), (1, .int (xi p1)), (2, .int (xi p2)), (3, .int (xi v3))] [] (wX ad k S) := by
  intro n
  induction n with
  | zero =>
    intro v3 S r hM
    cases hM
  | succ n ih =>
    intro v3 S r hM K
    unfold m_X5_step_L10 at hM
    refine xj_iload_n C 3 dX5_step_10 rfl rfl ?_
    refine xj_bipush C (n := 16) (by decide) dX5_step_11 ?_
    obtain ⟨g3, hM⟩ := xck_some hM
    refine xj_icmp_ge C (tgt := 51) dX5_step_13 (by decide) ⟨g3, (by decide)⟩ (fun c4 => ?_) (fun c4 => ?_)
    · have hM := xit hM c4
      obtain rfl := Option.some.inj hM
      refine xj_loc C [0, 1, 2] (L1 := [(0, .ref (ad 40)), (1, .int (xi p1)), (2, .int (xi p2))]) rfl ?_
      exact K
    · have hM := xif hM c4
      refine xj_aload_n C 0 dX5_step_16 rfl rfl ?_
      refine xj_get C (fun _ h => List.mem_cons_of_mem _ (List.mem_append_right _ h)) 40 (eX_40 ad k S) rfl 2 (by decide) (List.mem_of_getElem? (i := 1) rfl) (fun _ _ h => h) rfl dX5_step_17 ?_
      refine xj_iload_n C 3 dX5_step_20 rfl rfl ?_
      refine xj_aload_n C 0 dX5_step_21 rfl rfl ?_
      refine xj_iload_n C 3 dX5_step_22 rfl rfl ?_
      obtain ⟨r5, hRr5, hM⟩ := xbd hM
      refine xj_callV C [.int (xi v3)] [.int (xi v3), .ref (ad 27)] 1 (c_X5_hasRegister hRr5) gX5_step_X5_hasRegister rfl ⟨rfl, rfl⟩ hv_X5_hasRegister ⟨Nat.le_of_ble_eq_true rfl, Nat.le_of_ble_eq_true rfl⟩ 40 (eX_40 ad k _) rfl rfl (Nat.le_of_ble_eq_true rfl) dX5_step_23 ?_
      obtain ⟨r6, hRr6, hM⟩ := xbd hM
      have Kr6 : xJ l D k o X 4 44 [(0, .ref (ad 40)), (1, .int (xi p1)), (2, .int (xi p2)), (3, .int (xi v3))] [.int (xi r6), .int (xi v3), .ref (ad 27)] (wX ad k S) := by
        obtain ⟨g11, hM⟩ := xck_some hM
        refine xj_iast C 27 S 27 (eX_27 ad k S) (Nat.le_of_ble_eq_true rfl) g11 (sX_27 ad k S v3 r6) dX5_step_44 ?_
        refine xj_iinc C 3 (L1 := [(3, .int (xi (v3 + 1))), (0, .ref (ad 40)), (1, .int (xi p1)), (2, .int (xi p2))]) dX5_step_45 rfl (by decide) rfl ?_
        refine xj_goto C (tgt := 10) dX5_step_48 (by decide) ?_
        refine xj_loc C [1, 2, 3, 0] (L1 := [(0, .ref (ad 40)), (1, .int (xi p1)), (2, .int (xi p2)), (3, .int (xi (v3 + 1)))]) rfl ?_
        exact ih _ _ _ hM K
      clear hM
      have hM := hRr6
      obtain ⟨g7, hM⟩ := xck_some hM
      refine xj_if_eq C (tgt := 38) dX5_step_26 (by decide) g7 (fun c8 => ?_) (fun c8 => ?_)
      · have hM := xit hM c8
        refine xj_aload_n C 0 dX5_step_38 rfl rfl ?_
        refine xj_iload_n C 3 dX5_step_39 rfl rfl ?_
        refine xj_iload_n C 1 dX5_step_40 rfl rfl ?_
        obtain ⟨r9, hRr9, hM⟩ := xbd hM
        refine xj_callV C [.int (xi v3), .int (xi p1)] [.int (xi v3), .ref (ad 27)] 2 (c_X5_tableGives hRr9) gX5_step_X5_tableGives rfl ⟨rfl, rfl⟩ hv_X5_tableGives ⟨Nat.le_of_ble_eq_true rfl, Nat.le_of_ble_eq_true rfl⟩ 40 (eX_40 ad k _) rfl rfl (Nat.le_of_ble_eq_true rfl) dX5_step_41 ?_
        obtain rfl := Option.some.inj hM
        exact Kr6
      · have hM := xif hM c8
        refine xj_aload_n C 0 dX5_step_29 rfl rfl ?_
        refine xj_get C (fun _ h => List.mem_cons_of_mem _ (List.mem_append_right _ h)) 40 (eX_40 ad k S) rfl 2 (by decide) (List.mem_of_getElem? (i := 1) rfl) (fun _ _ h => h) rfl dX5_step_30 ?_
        refine xj_iload_n C 3 dX5_step_33 rfl rfl ?_
        obtain ⟨g10, hM⟩ := xck_some hM
        refine xj_iald C 27 S 27 (eX_27 ad k S) (Nat.le_of_ble_eq_true rfl) g10 dX5_step_34 ?_
        refine xj_goto C (tgt := 44) dX5_step_35 (by decide) ?_
        obtain rfl := Option.some.inj hM
        exact Kr6
set_option maxRecDepth 100000 in
set_option maxHeartbeats 4000000 in
theorem j_X5_step_L2 {l : Launch} {D : va_G} {k : Nat → ClassId} {ad : Nat → Nat} {o : xO} {X : xX} (C : xC D k o X cX5_step 4 RX5 wsX5_step (some .int) rmX5_step) (p1 : Int) : ∀ (n : Nat) (v2 : Int) (S : xS) (r : xS), m_X5_step_L2 p1 n v2 S = some r → (xJ l D k o X 4 57 [(0, .ref (ad 40)), (1, .int (xi p1))] [] (wX ad k r)) → xJ l D k o X 4 2 [(0, .ref (ad 40)), (1, .int (xi p1)), (2, .int (xi v2))] [] (wX ad k S) := by
  intro n
  induction n with
  | zero =>
    intro v2 S r hM
    cases hM
  | succ n ih =>
    intro v2 S r hM K
    unfold m_X5_step_L2 at hM
    refine xj_iload_n C 2 dX5_step_2 rfl rfl ?_
    refine xj_bipush C (n := 16) (by decide) dX5_step_3 ?_
    obtain ⟨g1, hM⟩ := xck_some hM
    refine xj_icmp_ge C (tgt := 57) dX5_step_5 (by decide) ⟨g1, (by decide)⟩ (fun c2 => ?_) (fun c2 => ?_)
    · have hM := xit hM c2
      obtain rfl := Option.some.inj hM
      refine xj_loc C [0, 1] (L1 := [(0, .ref (ad 40)), (1, .int (xi p1))]) rfl ?_
      exact K
    · have hM := xif hM c2
      refine xj_iconst C dX5_step_8 ?_
      refine xj_istore_n C (L1 := [(3, .int (xi 0)), (0, .ref (ad 40)), (1, .int (xi p1)), (2, .int (xi v2))]) dX5_step_9 rfl (by decide) rfl ?_
      obtain ⟨r12, hLr12, hM⟩ := xbd hM
      refine xj_loc C [1, 2, 3, 0] (L1 := [(0, .ref (ad 40)), (1, .int (xi p1)), (2, .int (xi v2)), (3, .int (xi 0))]) rfl ?_
      refine j_X5_step_L10 C p1 v2 _ _ _ _ hLr12 ?_
      refine xj_iinc C 2 (L1 := [(2, .int (xi (v2 + 1))), (0, .ref (ad 40)), (1, .int (xi p1))]) dX5_step_51 rfl (by decide) rfl ?_
      refine xj_goto C (tgt := 2) dX5_step_54 (by decide) ?_
      refine xj_loc C [1, 2, 0] (L1 := [(0, .ref (ad 40)), (1, .int (xi p1)), (2, .int (xi (v2 + 1)))]) rfl ?_
      exact ih _ _ _ hM K
set_option maxRecDepth 100000 in
set_option maxHeartbeats 4000000 in
theorem j_X5_step_L61 {l : Launch} {D : va_G} {k : Nat → ClassId} {ad : Nat → Nat} {o : xO} {X : xX} (C : xC D k o X cX5_step 4 RX5 wsX5_step (some .int) rmX5_step) (p1 : Int) (S : xS) : ∀ (n : Nat) (v2 : Int) (v3 : Int) (r : Int), m_X5_step_L61 p1 S n v2 v3 = some r → (xJ l D k o X 4 86 [(0, .ref (ad 40)), (1, .int (xi p1)), (2, .int (xi r))] [] (wX ad k S)) → xJ l D k o X 4 61 [(0, .ref (ad 40)), (1, .int (xi p1)), (2, .int (xi v2)), (3, .int (xi v3))] [] (wX ad k S) := by
  intro n
  induction n with
  | zero =>
    intro v2 v3 r hM
    cases hM
  | succ n ih =>
    intro v2 v3 r hM K
    unfold m_X5_step_L61 at hM
    refine xj_iload_n C 3 dX5_step_61 rfl rfl ?_
    refine xj_iconst C dX5_step_62 ?_
    obtain ⟨g14, hM⟩ := xck_some hM
    refine xj_icmp_ge C (tgt := 86) dX5_step_63 (by decide) ⟨g14, (by decide)⟩ (fun c15 => ?_) (fun c15 => ?_)
    · have hM := xit hM c15
      obtain rfl := Option.some.inj hM
      refine xj_loc C [0, 1, 2] (L1 := [(0, .ref (ad 40)), (1, .int (xi p1)), (2, .int (xi v2))]) rfl ?_
      exact K
    · have hM := xif hM c15
      refine xj_iload_n C 2 dX5_step_66 rfl rfl ?_
      refine xj_aload_n C 0 dX5_step_67 rfl rfl ?_
      refine xj_bipush C (n := 48) (by decide) dX5_step_68 ?_
      refine xj_iload_n C 3 dX5_step_70 rfl rfl ?_
      refine xj_iadd C dX5_step_71 ?_
      refine xj_iload_n C 1 dX5_step_72 rfl rfl ?_
      obtain ⟨r16, hRr16, hM⟩ := xbd hM
      refine xj_callV C [.int (xi (48 + v3)), .int (xi p1)] [.int (xi v2)] 2 (c_X5_valueAt hRr16) gX5_step_X5_valueAt rfl ⟨rfl, rfl⟩ hv_X5_valueAt ⟨Nat.le_of_ble_eq_true rfl, Nat.le_of_ble_eq_true rfl⟩ 40 (eX_40 ad k _) rfl rfl (Nat.le_of_ble_eq_true rfl) dX5_step_73 ?_
      refine xj_iload_n C 3 dX5_step_76 rfl rfl ?_
      refine xj_ishl C dX5_step_77 ?_
      refine xj_ior C dX5_step_78 ?_
      refine xj_istore_n C (L1 := [(2, .int (xi (xb_ior v2 (xb_ishl r16 v3)))), (0, .ref (ad 40)), (1, .int (xi p1)), (3, .int (xi v3))]) dX5_step_79 rfl (by decide) rfl ?_
      refine xj_iinc C 3 (L1 := [(3, .int (xi (v3 + 1))), (2, .int (xi (xb_ior v2 (xb_ishl r16 v3)))), (0, .ref (ad 40)), (1, .int (xi p1))]) dX5_step_80 rfl (by decide) rfl ?_
      refine xj_goto C (tgt := 61) dX5_step_83 (by decide) ?_
      refine xj_loc C [2, 3, 1, 0] (L1 := [(0, .ref (ad 40)), (1, .int (xi p1)), (2, .int (xi (xb_ior v2 (xb_ishl r16 v3)))), (3, .int (xi (v3 + 1)))]) rfl ?_
      exact ih _ _ _ hM K
set_option maxRecDepth 100000 in
set_option maxHeartbeats 4000000 in
theorem c_X5_step {l : Launch} {D : va_G} {k : Nat → ClassId} {ad : Nat → Nat} {S : xS} {p1 : Int} {res : Int × xS} (hM : m_X5_step p1 S = some res) : xM l yX5_step wsX5_step rmX5_step D k [.ref (ad 40), .int (xi p1)] (wX ad k S) (some (.int (xi res.1))) (wX ad k res.2) := by
  refine xM_of (ret := (some .int)) (by decide) rfl (Nat.le_of_ble_eq_true rfl) (fun X C => ?_)
  have C : xC D k (xo X D k (some (.int (xi res.1))) (wX ad k res.2)) X cX5_step 4 RX5 wsX5_step (some .int) rmX5_step := C
  show xJ l D k (xo X D k (some (.int (xi res.1))) (wX ad k res.2)) X 4 0 [(0, .ref (ad 40)), (1, .int (xi p1))] [] (wX ad k S)
  unfold m_X5_step at hM
  refine xj_iconst C dX5_step_0 ?_
  refine xj_istore_n C (L1 := [(2, .int (xi 0)), (0, .ref (ad 40)), (1, .int (xi p1))]) dX5_step_1 rfl (by decide) rfl ?_
  obtain ⟨r13, hLr13, hM⟩ := xbd hM
  refine xj_loc C [1, 2, 0] (L1 := [(0, .ref (ad 40)), (1, .int (xi p1)), (2, .int (xi 0))]) rfl ?_
  refine j_X5_step_L2 C p1 _ _ _ _ hLr13 ?_
  refine xj_iconst C dX5_step_57 ?_
  refine xj_istore_n C (L1 := [(2, .int (xi 0)), (0, .ref (ad 40)), (1, .int (xi p1))]) dX5_step_58 rfl (by decide) rfl ?_
  refine xj_iconst C dX5_step_59 ?_
  refine xj_istore_n C (L1 := [(3, .int (xi 0)), (2, .int (xi 0)), (0, .ref (ad 40)), (1, .int (xi p1))]) dX5_step_60 rfl (by decide) rfl ?_
  obtain ⟨r17, hLr17, hM⟩ := xbd hM
  refine xj_loc C [2, 3, 1, 0] (L1 := [(0, .ref (ad 40)), (1, .int (xi p1)), (2, .int (xi 0)), (3, .int (xi 0))]) rfl ?_
  refine j_X5_step_L61 C p1 r13 _ _ _ _ hLr17 ?_
  refine xj_aload_n C 0 dX5_step_86 rfl rfl ?_
  refine xj_iload_n C 1 dX5_step_87 rfl rfl ?_
  obtain ⟨r18, hRr18, hM⟩ := xbd hM
  refine xj_callV C [.int (xi p1)] [] 1 (c_X5_stepRegisters hRr18) gX5_step_X5_stepRegisters rfl ⟨rfl, rfl⟩ hv_X5_stepRegisters ⟨Nat.le_of_ble_eq_true rfl, Nat.le_of_ble_eq_true rfl⟩ 40 (eX_40 ad k _) rfl rfl (Nat.le_of_ble_eq_true rfl) dX5_step_88 ?_
  refine xj_iload_n C 2 dX5_step_91 rfl rfl ?_
  obtain rfl := Option.some.inj hM
  exact xj_iret C rfl dX5_step_92
