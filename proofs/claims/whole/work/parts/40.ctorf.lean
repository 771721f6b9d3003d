/-! the constructors with the static rows, and the two large ones (by program: wip/whole/genc.py) -/
def rmX1_laySwitch : Room := { frames := 0, cells := 0, slots := 0, locals := 0 }
theorem hv_X1_laySwitch : yX1_laySwitch.cls = RX1 ∧ yX1_laySwitch.cls ≠ "java/lang/invoke/MethodHandle" ∧ yX1_laySwitch.cls ≠ "java/lang/invoke/VarHandle" ∧ (parseMethodDescriptor yX1_laySwitch.desc).map (fun d => d.parameters.length) = some 3 := by decide +kernel
def m_X1_laySwitch (p1 : Int) (p2 : Int) (p3 : Int) (S : xS) : Option (xS) := xck (0 ≤ ((p1 * 5) + p2) ∧ ((p1 * 5) + p2) < 720) (xck (xr p3) (if p3 = (-1) then some (xup S 0 ((p1 * 5) + p2) p3) else xck (0 ≤ p3 ∧ p3 < 148) (xck (xr (S 3 p3)) (if 8 ≤ (S 3 p3) then some (xup S 0 ((p1 * 5) + p2) p3) else xck (0 ≤ ((p3 * 8) + (S 3 p3)) ∧ ((p3 * 8) + (S 3 p3)) < 1184) (some (xup (xup (xup S 0 ((p1 * 5) + p2) p3) 2 ((p3 * 8) + (S 3 p3)) p1) 3 p3 ((S 3 p3) + 1)))))))
set_option maxRecDepth 100000 in
set_option maxHeartbeats 4000000 in
theorem c_X1_laySwitch {l : Launch} {D : va_G} {k : Nat → ClassId} {ad : Nat → Nat} {S : xS} {p1 : Int} {p2 : Int} {p3 : Int} {res : xS} (hM : m_X1_laySwitch p1 p2 p3 S = some res) : xM l yX1_laySwitch wsX1_laySwitch rmX1_laySwitch D k [.ref (ad 4), .int (xi p1), .int (xi p2), .int (xi p3)] (wF ad k S) none (wF ad k res) := by
  refine xM_of (ret := none) (by decide) rfl (Nat.le_of_ble_eq_true rfl) (fun X C => ?_)
  have C : xC D k (xo X D k none (wF ad k res)) X cX1_laySwitch 4 RX1 wsX1_laySwitch none rmX1_laySwitch := C
  show xJ l D k (xo X D k none (wF ad k res)) X 4 0 [(0, .ref (ad 4)), (1, .int (xi p1)), (2, .int (xi p2)), (3, .int (xi p3))] [] (wF ad k S)
  unfold m_X1_laySwitch at hM
  refine xj_aload_n C 0 dX1_laySwitch_0 rfl rfl ?_
  refine xj_get C (fun _ h => List.mem_cons_of_mem _ (List.mem_append_right _ h)) 4 (eF_4 ad k S) rfl 0 (by decide) (List.mem_of_getElem? (i := 1) rfl) (fun _ _ h => h) rfl dX1_laySwitch_1 ?_
  refine xj_iload_n C 1 dX1_laySwitch_4 rfl rfl ?_
  refine xj_iconst C dX1_laySwitch_5 ?_
  refine xj_imul C dX1_laySwitch_6 ?_
  refine xj_iload_n C 2 dX1_laySwitch_7 rfl rfl ?_
  refine xj_iadd C dX1_laySwitch_8 ?_
  refine xj_iload_n C 3 dX1_laySwitch_9 rfl rfl ?_
  obtain ⟨g1, hM⟩ := xck_some hM
  refine xj_iast C 0 S 0 (eF_0 ad k S) (Nat.le_of_ble_eq_true rfl) g1 (sF_0 ad k S ((p1 * 5) + p2) p3) dX1_laySwitch_10 ?_
  refine xj_iload_n C 3 dX1_laySwitch_11 rfl rfl ?_
  refine xj_iconst C dX1_laySwitch_12 ?_
  obtain ⟨g2, hM⟩ := xck_some hM
  refine xj_icmp_eq C (tgt := 54) dX1_laySwitch_13 (by decide) ⟨g2, (by decide)⟩ (fun c3 => ?_) (fun c3 => ?_)
  · have hM := xit hM c3
    obtain rfl := Option.some.inj hM
    exact xj_vret C rfl dX1_laySwitch_54
  · have hM := xif hM c3
    refine xj_aload_n C 0 dX1_laySwitch_16 rfl rfl ?_
    refine xj_get C (fun _ h => List.mem_cons_of_mem _ (List.mem_append_right _ h)) 4 (eF_4 ad k (xup S 0 ((p1 * 5) + p2) p3)) rfl 3 (by decide) (List.mem_of_getElem? (i := 2) rfl) (fun _ _ h => h) rfl dX1_laySwitch_17 ?_
    refine xj_iload_n C 3 dX1_laySwitch_20 rfl rfl ?_
    obtain ⟨g4, hM⟩ := xck_some hM
    refine xj_iald C 3 S 3 (eF_3 ad k (xup S 0 ((p1 * 5) + p2) p3)) (Nat.le_of_ble_eq_true rfl) g4 dX1_laySwitch_21 ?_
    refine xj_bipush C (n := 8) (by decide) dX1_laySwitch_22 ?_
    obtain ⟨g5, hM⟩ := xck_some hM
    refine xj_icmp_ge C (tgt := 54) dX1_laySwitch_24 (by decide) ⟨g5, (by decide)⟩ (fun c6 => ?_) (fun c6 => ?_)
    · have hM := xit hM c6
      obtain rfl := Option.some.inj hM
      exact xj_vret C rfl dX1_laySwitch_54
    · have hM := xif hM c6
      refine xj_aload_n C 0 dX1_laySwitch_27 rfl rfl ?_
      refine xj_get C (fun _ h => List.mem_cons_of_mem _ (List.mem_append_right _ h)) 4 (eF_4 ad k (xup S 0 ((p1 * 5) + p2) p3)) rfl 2 (by decide) (List.mem_of_getElem? (i := 3) rfl) (fun _ _ h => h) rfl dX1_laySwitch_28 ?_
      refine xj_iload_n C 3 dX1_laySwitch_31 rfl rfl ?_
      refine xj_bipush C (n := 8) (by decide) dX1_laySwitch_32 ?_
      refine xj_imul C dX1_laySwitch_34 ?_
      refine xj_aload_n C 0 dX1_laySwitch_35 rfl rfl ?_
      refine xj_get C (fun _ h => List.mem_cons_of_mem _ (List.mem_append_right _ h)) 4 (eF_4 ad k (xup S 0 ((p1 * 5) + p2) p3)) rfl 3 (by decide) (List.mem_of_getElem? (i := 2) rfl) (fun _ _ h => h) rfl dX1_laySwitch_36 ?_
      refine xj_iload_n C 3 dX1_laySwitch_39 rfl rfl ?_
      refine xj_iald C 3 S 3 (eF_3 ad k (xup S 0 ((p1 * 5) + p2) p3)) (Nat.le_of_ble_eq_true rfl) g4 dX1_laySwitch_40 ?_
      refine xj_iadd C dX1_laySwitch_41 ?_
      refine xj_iload_n C 1 dX1_laySwitch_42 rfl rfl ?_
      obtain ⟨g7, hM⟩ := xck_some hM
      refine xj_iast C 2 (xup S 0 ((p1 * 5) + p2) p3) 2 (eF_2 ad k (xup S 0 ((p1 * 5) + p2) p3)) (Nat.le_of_ble_eq_true rfl) g7 (sF_2 ad k (xup S 0 ((p1 * 5) + p2) p3) ((p3 * 8) + (S 3 p3)) p1) dX1_laySwitch_43 ?_
      refine xj_aload_n C 0 dX1_laySwitch_44 rfl rfl ?_
      refine xj_get C (fun _ h => List.mem_cons_of_mem _ (List.mem_append_right _ h)) 4 (eF_4 ad k (xup (xup S 0 ((p1 * 5) + p2) p3) 2 ((p3 * 8) + (S 3 p3)) p1)) rfl 3 (by decide) (List.mem_of_getElem? (i := 2) rfl) (fun _ _ h => h) rfl dX1_laySwitch_45 ?_
      refine xj_iload_n C 3 dX1_laySwitch_48 rfl rfl ?_
      refine xj_dup2 C rfl rfl dX1_laySwitch_49 ?_
      refine xj_iald C 3 S 3 (eF_3 ad k (xup (xup S 0 ((p1 * 5) + p2) p3) 2 ((p3 * 8) + (S 3 p3)) p1)) (Nat.le_of_ble_eq_true rfl) g4 dX1_laySwitch_50 ?_
      refine xj_iconst C dX1_laySwitch_51 ?_
      refine xj_iadd C dX1_laySwitch_52 ?_
      refine xj_iast C 3 (xup (xup S 0 ((p1 * 5) + p2) p3) 2 ((p3 * 8) + (S 3 p3)) p1) 3 (eF_3 ad k (xup (xup S 0 ((p1 * 5) + p2) p3) 2 ((p3 * 8) + (S 3 p3)) p1)) (Nat.le_of_ble_eq_true rfl) g4 (sF_3 ad k (xup (xup S 0 ((p1 * 5) + p2) p3) 2 ((p3 * 8) + (S 3 p3)) p1) p3 ((S 3 p3) + 1)) dX1_laySwitch_53 ?_
      obtain rfl := Option.some.inj hM
      exact xj_vret C rfl dX1_laySwitch_54
def rmX1_wireInto : Room := { frames := 1, cells := 0, slots := 0, locals := 22 }
theorem hv_X1_wireInto : yX1_wireInto.cls ≠ "java/lang/invoke/MethodHandle" ∧ yX1_wireInto.cls ≠ "java/lang/invoke/VarHandle" ∧ (parseMethodDescriptor yX1_wireInto.desc).map (fun d => d.parameters.length) = some 3 := by decide +kernel
def m_X1_wireInto (p0 : Int) (p1 : Int) (p2 : Int) : Option (Int) := xck (0 ≤ p0 ∧ p0 ≤ 2147483647) (xck (0 ≤ p1 ∧ p1 < 4) (xck (xr ((p0 / 4) + (([-1, 0, 1, 0] : List Int).getD p1.toNat 0))) (if ((p0 / 4) + (([-1, 0, 1, 0] : List Int).getD p1.toNat 0)) < 0 then xck (xr p1) (if p1 = 3 then xck (xr p2) (if p2 = 0 then some (144 + ((p0 / 4) + (([-1, 0, 1, 0] : List Int).getD p1.toNat 0))) else some (-1)) else some (-1)) else (if 4 ≤ ((p0 / 4) + (([-1, 0, 1, 0] : List Int).getD p1.toNat 0)) then xck (xr p1) (if p1 = 3 then xck (xr p2) (if p2 = 0 then some (144 + ((p0 / 4) + (([-1, 0, 1, 0] : List Int).getD p1.toNat 0))) else some (-1)) else some (-1)) else xck (xr ((p0 % 4) + (([0, 1, 0, -1] : List Int).getD p1.toNat 0))) (if ((p0 % 4) + (([0, 1, 0, -1] : List Int).getD p1.toNat 0)) < 0 then xck (xr p1) (if p1 = 3 then xck (xr p2) (if p2 = 0 then some (144 + ((p0 / 4) + (([-1, 0, 1, 0] : List Int).getD p1.toNat 0))) else some (-1)) else some (-1)) else (if 4 ≤ ((p0 % 4) + (([0, 1, 0, -1] : List Int).getD p1.toNat 0)) then xck (xr p1) (if p1 = 3 then xck (xr p2) (if p2 = 0 then some (144 + ((p0 / 4) + (([-1, 0, 1, 0] : List Int).getD p1.toNat 0))) else some (-1)) else some (-1)) else xck (0 ≤ (p1 + 2) ∧ (p1 + 2) ≤ 2147483647) ((m_X1_channelOf ((((p0 / 4) + (([-1, 0, 1, 0] : List Int).getD p1.toNat 0)) * 4) + ((p0 % 4) + (([0, 1, 0, -1] : List Int).getD p1.toNat 0))) ((p1 + 2) % 4) p2).bind (fun r26 => some r26))))))))
set_option maxRecDepth 100000 in
set_option maxHeartbeats 4000000 in
theorem c_X1_wireInto {l : Launch} {D : va_G} {k : Nat → ClassId} {sa sb : Nat} {w : va_W} {p0 : Int} {p1 : Int} {p2 : Int} {res : Int} (hM : m_X1_wireInto p0 p1 p2 = some res) : xMZ sa sb l yX1_wireInto wsX1_wireInto rmX1_wireInto D k [.int (xi p0), .int (xi p1), .int (xi p2)] w (some (.int (xi res))) w := by
  refine xMZ_of (ret := (some .int)) (by decide) rfl (Nat.le_of_ble_eq_true rfl) (fun X C Z => ?_)
  have C : xC D k (xo X D k (some (.int (xi res))) w) X cX1_wireInto 6 RX1 wsX1_wireInto (some .int) rmX1_wireInto := C
  show xJ l D k (xo X D k (some (.int (xi res))) w) X 6 0 [(0, .int (xi p0)), (1, .int (xi p1)), (2, .int (xi p2))] [] w
  unfold m_X1_wireInto at hM
  refine xj_iload_n C 0 dX1_wireInto_0 rfl rfl ?_
  refine xj_iconst C dX1_wireInto_1 ?_
  obtain ⟨g1, hM⟩ := xck_some hM
  refine xj_idiv C ⟨g1.1, g1.2, by decide, by decide⟩ dX1_wireInto_2 ?_
  refine xj_gets_row C Z (List.mem_of_getElem? (i := 1) rfl) dX1_wireInto_3 ?_
  refine xj_iload_n C 1 dX1_wireInto_6 rfl rfl ?_
  obtain ⟨g2, hM⟩ := xck_some hM
  refine xj_sld_row C Z g2 dX1_wireInto_7 ?_
  refine xj_iadd C dX1_wireInto_8 ?_
  refine xj_istore_n C (L1 := [(3, .int (xi ((p0 / 4) + (([-1, 0, 1, 0] : List Int).getD p1.toNat 0)))), (0, .int (xi p0)), (1, .int (xi p1)), (2, .int (xi p2))]) dX1_wireInto_9 rfl (by decide) rfl ?_
  refine xj_iload_n C 1 dX1_wireInto_10 rfl rfl ?_
  refine xj_iconst C dX1_wireInto_11 ?_
  refine xj_irem C ⟨g1.1, g1.2, by decide, by decide⟩ dX1_wireInto_12 ?_
  refine xj_gets_col C Z (List.mem_of_getElem? (i := 2) rfl) dX1_wireInto_13 ?_
  refine xj_iload_n C 2 dX1_wireInto_16 rfl rfl ?_
  refine xj_sld_col C Z g2 dX1_wireInto_17 ?_
  refine xj_iadd C dX1_wireInto_18 ?_
  refine xj_istore C (L1 := [(4, .int (xi ((p0 % 4) + (([0, 1, 0, -1] : List Int).getD p1.toNat 0)))), (3, .int (xi ((p0 / 4) + (([-1, 0, 1, 0] : List Int).getD p1.toNat 0)))), (0, .int (xi p0)), (1, .int (xi p1)), (2, .int (xi p2))]) dX1_wireInto_19 (by decide) rfl ?_
  refine xj_iload_n C 1 dX1_wireInto_21 rfl rfl ?_
  obtain ⟨g3, hM⟩ := xck_some hM
  refine xj_if_lt C (tgt := 61) dX1_wireInto_22 (by decide) g3 (fun c4 => ?_) (fun c4 => ?_)
  · have hM := xit hM c4
    refine xj_iload_n C 3 dX1_wireInto_61 rfl rfl ?_
    refine xj_iconst C dX1_wireInto_62 ?_
    obtain ⟨g5, hM⟩ := xck_some hM
    refine xj_icmp_ne C (tgt := 78) dX1_wireInto_63 (by decide) ⟨g5, (by decide)⟩ (fun c6 => ?_) (fun c6 => ?_)
    · have hM := xif hM c6
      refine xj_iconst C dX1_wireInto_78 ?_
      obtain rfl := Option.some.inj hM
      exact xj_iret C rfl dX1_wireInto_79
    · have hM := xit hM c6
      refine xj_iload_n C 4 dX1_wireInto_66 rfl rfl ?_
      obtain ⟨g7, hM⟩ := xck_some hM
      refine xj_if_ne C (tgt := 78) dX1_wireInto_67 (by decide) g7 (fun c8 => ?_) (fun c8 => ?_)
      · have hM := xif hM c8
        refine xj_iconst C dX1_wireInto_78 ?_
        obtain rfl := Option.some.inj hM
        exact xj_iret C rfl dX1_wireInto_79
      · have hM := xit hM c8
        refine xj_sipush C (n := 144) (by decide) dX1_wireInto_70 ?_
        refine xj_iload_n C 1 dX1_wireInto_73 rfl rfl ?_
        refine xj_iadd C dX1_wireInto_74 ?_
        refine xj_goto C (tgt := 79) dX1_wireInto_75 (by decide) ?_
        obtain rfl := Option.some.inj hM
        exact xj_iret C rfl dX1_wireInto_79
  · have hM := xif hM c4
    refine xj_iload_n C 1 dX1_wireInto_25 rfl rfl ?_
    refine xj_iconst C dX1_wireInto_26 ?_
    refine xj_icmp_ge C (tgt := 61) dX1_wireInto_27 (by decide) ⟨g3, (by decide)⟩ (fun c9 => ?_) (fun c9 => ?_)
    · have hM := xit hM c9
      refine xj_iload_n C 3 dX1_wireInto_61 rfl rfl ?_
      refine xj_iconst C dX1_wireInto_62 ?_
      obtain ⟨g10, hM⟩ := xck_some hM
      refine xj_icmp_ne C (tgt := 78) dX1_wireInto_63 (by decide) ⟨g10, (by decide)⟩ (fun c11 => ?_) (fun c11 => ?_)
      · have hM := xif hM c11
        refine xj_iconst C dX1_wireInto_78 ?_
        obtain rfl := Option.some.inj hM
        exact xj_iret C rfl dX1_wireInto_79
      · have hM := xit hM c11
        refine xj_iload_n C 4 dX1_wireInto_66 rfl rfl ?_
        obtain ⟨g12, hM⟩ := xck_some hM
        refine xj_if_ne C (tgt := 78) dX1_wireInto_67 (by decide) g12 (fun c13 => ?_) (fun c13 => ?_)
        · have hM := xif hM c13
          refine xj_iconst C dX1_wireInto_78 ?_
          obtain rfl := Option.some.inj hM
          exact xj_iret C rfl dX1_wireInto_79
        · have hM := xit hM c13
          refine xj_sipush C (n := 144) (by decide) dX1_wireInto_70 ?_
          refine xj_iload_n C 1 dX1_wireInto_73 rfl rfl ?_
          refine xj_iadd C dX1_wireInto_74 ?_
          refine xj_goto C (tgt := 79) dX1_wireInto_75 (by decide) ?_
          obtain rfl := Option.some.inj hM
          exact xj_iret C rfl dX1_wireInto_79
    · have hM := xif hM c9
      refine xj_iload C 0 dX1_wireInto_30 rfl ?_
      obtain ⟨g14, hM⟩ := xck_some hM
      refine xj_if_lt C (tgt := 61) dX1_wireInto_32 (by decide) g14 (fun c15 => ?_) (fun c15 => ?_)
      · have hM := xit hM c15
        refine xj_iload_n C 3 dX1_wireInto_61 rfl rfl ?_
        refine xj_iconst C dX1_wireInto_62 ?_
        obtain ⟨g16, hM⟩ := xck_some hM
        refine xj_icmp_ne C (tgt := 78) dX1_wireInto_63 (by decide) ⟨g16, (by decide)⟩ (fun c17 => ?_) (fun c17 => ?_)
        · have hM := xif hM c17
          refine xj_iconst C dX1_wireInto_78 ?_
          obtain rfl := Option.some.inj hM
          exact xj_iret C rfl dX1_wireInto_79
        · have hM := xit hM c17
          refine xj_iload_n C 4 dX1_wireInto_66 rfl rfl ?_
          obtain ⟨g18, hM⟩ := xck_some hM
          refine xj_if_ne C (tgt := 78) dX1_wireInto_67 (by decide) g18 (fun c19 => ?_) (fun c19 => ?_)
          · have hM := xif hM c19
            refine xj_iconst C dX1_wireInto_78 ?_
            obtain rfl := Option.some.inj hM
            exact xj_iret C rfl dX1_wireInto_79
          · have hM := xit hM c19
            refine xj_sipush C (n := 144) (by decide) dX1_wireInto_70 ?_
            refine xj_iload_n C 1 dX1_wireInto_73 rfl rfl ?_
            refine xj_iadd C dX1_wireInto_74 ?_
            refine xj_goto C (tgt := 79) dX1_wireInto_75 (by decide) ?_
            obtain rfl := Option.some.inj hM
            exact xj_iret C rfl dX1_wireInto_79
      · have hM := xif hM c15
        refine xj_iload C 0 dX1_wireInto_35 rfl ?_
        refine xj_iconst C dX1_wireInto_37 ?_
        refine xj_icmp_ge C (tgt := 61) dX1_wireInto_38 (by decide) ⟨g14, (by decide)⟩ (fun c20 => ?_) (fun c20 => ?_)
        · have hM := xit hM c20
          refine xj_iload_n C 3 dX1_wireInto_61 rfl rfl ?_
          refine xj_iconst C dX1_wireInto_62 ?_
          obtain ⟨g21, hM⟩ := xck_some hM
          refine xj_icmp_ne C (tgt := 78) dX1_wireInto_63 (by decide) ⟨g21, (by decide)⟩ (fun c22 => ?_) (fun c22 => ?_)
          · have hM := xif hM c22
            refine xj_iconst C dX1_wireInto_78 ?_
            obtain rfl := Option.some.inj hM
            exact xj_iret C rfl dX1_wireInto_79
          · have hM := xit hM c22
            refine xj_iload_n C 4 dX1_wireInto_66 rfl rfl ?_
            obtain ⟨g23, hM⟩ := xck_some hM
            refine xj_if_ne C (tgt := 78) dX1_wireInto_67 (by decide) g23 (fun c24 => ?_) (fun c24 => ?_)
            · have hM := xif hM c24
              refine xj_iconst C dX1_wireInto_78 ?_
              obtain rfl := Option.some.inj hM
              exact xj_iret C rfl dX1_wireInto_79
            · have hM := xit hM c24
              refine xj_sipush C (n := 144) (by decide) dX1_wireInto_70 ?_
              refine xj_iload_n C 1 dX1_wireInto_73 rfl rfl ?_
              refine xj_iadd C dX1_wireInto_74 ?_
              refine xj_goto C (tgt := 79) dX1_wireInto_75 (by decide) ?_
              obtain rfl := Option.some.inj hM
              exact xj_iret C rfl dX1_wireInto_79
        · have hM := xif hM c20
          refine xj_iload_n C 3 dX1_wireInto_41 rfl rfl ?_
          refine xj_iconst C dX1_wireInto_42 ?_
          refine xj_iadd C dX1_wireInto_43 ?_
          refine xj_iconst C dX1_wireInto_44 ?_
          obtain ⟨g25, hM⟩ := xck_some hM
          refine xj_irem C ⟨g25.1, g25.2, by decide, by decide⟩ dX1_wireInto_45 ?_
          refine xj_istore C (L1 := [(5, .int (xi ((p1 + 2) % 4))), (4, .int (xi ((p0 % 4) + (([0, 1, 0, -1] : List Int).getD p1.toNat 0)))), (3, .int (xi ((p0 / 4) + (([-1, 0, 1, 0] : List Int).getD p1.toNat 0)))), (0, .int (xi p0)), (1, .int (xi p1)), (2, .int (xi p2))]) dX1_wireInto_46 (by decide) rfl ?_
          refine xj_iload_n C 2 dX1_wireInto_48 rfl rfl ?_
          refine xj_iconst C dX1_wireInto_49 ?_
          refine xj_imul C dX1_wireInto_50 ?_
          refine xj_iload C 1 dX1_wireInto_51 rfl ?_
          refine xj_iadd C dX1_wireInto_53 ?_
          refine xj_iload C 0 dX1_wireInto_54 rfl ?_
          refine xj_iload_n C 5 dX1_wireInto_56 rfl rfl ?_
          obtain ⟨r26, hRr26, hM⟩ := xbd hM
          refine xj_callS C [.int (xi ((((p0 / 4) + (([-1, 0, 1, 0] : List Int).getD p1.toNat 0)) * 4) + ((p0 % 4) + (([0, 1, 0, -1] : List Int).getD p1.toNat 0)))), .int (xi ((p1 + 2) % 4)), .int (xi p2)] [] 3 (c_X1_channelOf hRr26) gX1_wireInto_X1_channelOf rfl ⟨rfl, rfl⟩ hv_X1_channelOf ⟨Nat.le_of_ble_eq_true rfl, Nat.le_of_ble_eq_true rfl⟩ rfl (Nat.le_of_ble_eq_true rfl) dX1_wireInto_57 ?_
          obtain rfl := Option.some.inj hM
          exact xj_iret C rfl dX1_wireInto_60
def rmX1_layChannel : Room := { frames := 2, cells := 0, slots := 0, locals := 47 }
theorem hv_X1_layChannel : yX1_layChannel.cls = RX1 ∧ yX1_layChannel.cls ≠ "java/lang/invoke/MethodHandle" ∧ yX1_layChannel.cls ≠ "java/lang/invoke/VarHandle" ∧ (parseMethodDescriptor yX1_layChannel.desc).map (fun d => d.parameters.length) = some 3 := by decide +kernel
def m_X1_layChannel_L22 (p1 : Int) (p2 : Int) (p3 : Int) (p4 : Int) : Nat → Int → xS → Option (xS)
  | 0, _, _ => none
  | n + 1, v5, S => xck (xr v5) (if 4 ≤ v5 then some S else xck (0 ≤ (p2 + v5) ∧ (p2 + v5) ≤ 2147483647) ((m_X1_wireInto p1 ((p2 + v5) % 4) p3).bind (fun r7 => (m_X1_laySwitch p4 (1 + v5) r7 S).bind (fun r8 => m_X1_layChannel_L22 p1 p2 p3 p4 n (v5 + 1) r8))))
def m_X1_layChannel (p1 : Int) (p2 : Int) (p3 : Int) (S : xS) : Option (xS) := (m_X1_channelOf p1 p2 p3).bind (fun r1 => (m_X1_outletOf p1).bind (fun r2 => (m_X1_laySwitch r1 1 r2 S).bind (fun r3 => (m_X1_layChannel_L22 p1 p2 p3 r1 2000 1 r3).bind (fun r9 => some r9))))
set_option maxRecDepth 100000 in
set_option maxHeartbeats 4000000 in
theorem j_X1_layChannel_L22 {l : Launch} {D : va_G} {k : Nat → ClassId} {ad : Nat → Nat} {o : xO} {X : xX} (C : xC D k o X cX1_layChannel 7 RX1 wsX1_layChannel none rmX1_layChannel) {sa sb : Nat} (Z : xZ sa sb X) (p1 : Int) (p2 : Int) (p3 : Int) (p4 : Int) : ∀ (n : Nat) (v5 : Int) (S : xS) (r : xS), m_X1_layChannel_L22 p1 p2 p3 p4 n v5 S = some r → (xJ l D k o X 7 59 [] [] (wF ad k r)) → xJ l D k o X 7 22 [(0, .ref (ad 4)), (1, .int (xi p1)), (2, .int (xi p2)), (3, .int (xi p3)), (4, .int (xi p4)), (5, .int (xi v5))] [] (wF ad k S) := by
  intro n
  induction n with
  | zero =>
    intro v5 S r hM
    cases hM
  | succ n ih =>
    intro v5 S r hM K
    unfold m_X1_layChannel_L22 at hM
    refine xj_iload C 5 dX1_layChannel_22 rfl ?_
    refine xj_iconst C dX1_layChannel_24 ?_
    obtain ⟨g4, hM⟩ := xck_some hM
    refine xj_icmp_ge C (tgt := 59) dX1_layChannel_25 (by decide) ⟨g4, (by decide)⟩ (fun c5 => ?_) (fun c5 => ?_)
    · have hM := xit hM c5
      obtain rfl := Option.some.inj hM
      refine xj_loc C [] (L1 := []) rfl ?_
      exact K
    · have hM := xif hM c5
      refine xj_iload_n C 2 dX1_layChannel_28 rfl rfl ?_
      refine xj_iload C 5 dX1_layChannel_29 rfl ?_
      refine xj_iadd C dX1_layChannel_31 ?_
      refine xj_iconst C dX1_layChannel_32 ?_
      obtain ⟨g6, hM⟩ := xck_some hM
      refine xj_irem C ⟨g6.1, g6.2, by decide, by decide⟩ dX1_layChannel_33 ?_
      refine xj_istore C (L1 := [(6, .int (xi ((p2 + v5) % 4))), (0, .ref (ad 4)), (1, .int (xi p1)), (2, .int (xi p2)), (3, .int (xi p3)), (4, .int (xi p4)), (5, .int (xi v5))]) dX1_layChannel_34 (by decide) rfl ?_
      refine xj_aload_n C 1 dX1_layChannel_36 rfl rfl ?_
      refine xj_iload C 5 dX1_layChannel_37 rfl ?_
      refine xj_iconst C dX1_layChannel_39 ?_
      refine xj_iload C 6 dX1_layChannel_40 rfl ?_
      refine xj_iadd C dX1_layChannel_42 ?_
      refine xj_iload_n C 2 dX1_layChannel_43 rfl rfl ?_
      refine xj_iload C 0 dX1_layChannel_44 rfl ?_
      refine xj_iload_n C 4 dX1_layChannel_46 rfl rfl ?_
      obtain ⟨r7, hRr7, hM⟩ := xbd hM
      refine xj_callSZ C [.int (xi p1), .int (xi ((p2 + v5) % 4)), .int (xi p3)] [.int (xi (1 + v5)), .int (xi p4), .ref (ad 4)] 3 Z (c_X1_wireInto hRr7) gX1_layChannel_X1_wireInto rfl ⟨rfl, rfl⟩ hv_X1_wireInto ⟨Nat.le_of_ble_eq_true rfl, Nat.le_of_ble_eq_true rfl⟩ rfl (Nat.le_of_ble_eq_true rfl) dX1_layChannel_47 ?_
      obtain ⟨r8, hRr8, hM⟩ := xbd hM
      refine xj_callV C [.int (xi p4), .int (xi (1 + v5)), .int (xi r7)] [] 3 (c_X1_laySwitch hRr8) gX1_layChannel_X1_laySwitch rfl ⟨rfl, rfl⟩ hv_X1_laySwitch ⟨Nat.le_of_ble_eq_true rfl, Nat.le_of_ble_eq_true rfl⟩ 4 (eF_4 ad k _) rfl rfl (Nat.le_of_ble_eq_true rfl) dX1_layChannel_50 ?_
      refine xj_iinc C 6 (L1 := [(5, .int (xi (v5 + 1))), (6, .int (xi ((p2 + v5) % 4))), (0, .ref (ad 4)), (1, .int (xi p1)), (2, .int (xi p2)), (3, .int (xi p3)), (4, .int (xi p4))]) dX1_layChannel_53 rfl (by decide) rfl ?_
      refine xj_goto C (tgt := 22) dX1_layChannel_56 (by decide) ?_
      refine xj_loc C [2, 3, 4, 5, 6, 0] (L1 := [(0, .ref (ad 4)), (1, .int (xi p1)), (2, .int (xi p2)), (3, .int (xi p3)), (4, .int (xi p4)), (5, .int (xi (v5 + 1)))]) rfl ?_
      exact ih _ _ _ hM K
set_option maxRecDepth 100000 in
set_option maxHeartbeats 4000000 in
theorem c_X1_layChannel {l : Launch} {D : va_G} {k : Nat → ClassId} {sa sb : Nat} {ad : Nat → Nat} {S : xS} {p1 : Int} {p2 : Int} {p3 : Int} {res : xS} (hM : m_X1_layChannel p1 p2 p3 S = some res) : xMZ sa sb l yX1_layChannel wsX1_layChannel rmX1_layChannel D k [.ref (ad 4), .int (xi p1), .int (xi p2), .int (xi p3)] (wF ad k S) none (wF ad k res) := by
  refine xMZ_of (ret := none) (by decide) rfl (Nat.le_of_ble_eq_true rfl) (fun X C Z => ?_)
  have C : xC D k (xo X D k none (wF ad k res)) X cX1_layChannel 7 RX1 wsX1_layChannel none rmX1_layChannel := C
  show xJ l D k (xo X D k none (wF ad k res)) X 7 0 [(0, .ref (ad 4)), (1, .int (xi p1)), (2, .int (xi p2)), (3, .int (xi p3))] [] (wF ad k S)
  unfold m_X1_layChannel at hM
  refine xj_iload_n C 1 dX1_layChannel_0 rfl rfl ?_
  refine xj_iload_n C 2 dX1_layChannel_1 rfl rfl ?_
  refine xj_iload_n C 3 dX1_layChannel_2 rfl rfl ?_
  obtain ⟨r1, hRr1, hM⟩ := xbd hM
  refine xj_callS C [.int (xi p1), .int (xi p2), .int (xi p3)] [] 3 (c_X1_channelOf hRr1) gX1_layChannel_X1_channelOf rfl ⟨rfl, rfl⟩ hv_X1_channelOf ⟨Nat.le_of_ble_eq_true rfl, Nat.le_of_ble_eq_true rfl⟩ rfl (Nat.le_of_ble_eq_true rfl) dX1_layChannel_3 ?_
  refine xj_istore C (L1 := [(4, .int (xi r1)), (0, .ref (ad 4)), (1, .int (xi p1)), (2, .int (xi p2)), (3, .int (xi p3))]) dX1_layChannel_6 (by decide) rfl ?_
  refine xj_aload_n C 1 dX1_layChannel_8 rfl rfl ?_
  refine xj_iload C 0 dX1_layChannel_9 rfl ?_
  refine xj_iconst C dX1_layChannel_11 ?_
  refine xj_iload_n C 2 dX1_layChannel_12 rfl rfl ?_
  obtain ⟨r2, hRr2, hM⟩ := xbd hM
  refine xj_callS C [.int (xi p1)] [.int (xi 1), .int (xi r1), .ref (ad 4)] 1 (c_X1_outletOf hRr2) gX1_layChannel_X1_outletOf rfl ⟨rfl, rfl⟩ hv_X1_outletOf ⟨Nat.le_of_ble_eq_true rfl, Nat.le_of_ble_eq_true rfl⟩ rfl (Nat.le_of_ble_eq_true rfl) dX1_layChannel_13 ?_
  obtain ⟨r3, hRr3, hM⟩ := xbd hM
  refine xj_callV C [.int (xi r1), .int (xi 1), .int (xi r2)] [] 3 (c_X1_laySwitch hRr3) gX1_layChannel_X1_laySwitch rfl ⟨rfl, rfl⟩ hv_X1_laySwitch ⟨Nat.le_of_ble_eq_true rfl, Nat.le_of_ble_eq_true rfl⟩ 4 (eF_4 ad k _) rfl rfl (Nat.le_of_ble_eq_true rfl) dX1_layChannel_16 ?_
  refine xj_iconst C dX1_layChannel_19 ?_
  refine xj_istore C (L1 := [(5, .int (xi 1)), (4, .int (xi r1)), (0, .ref (ad 4)), (1, .int (xi p1)), (2, .int (xi p2)), (3, .int (xi p3))]) dX1_layChannel_20 (by decide) rfl ?_
  obtain ⟨r9, hLr9, hM⟩ := xbd hM
  refine xj_loc C [2, 3, 4, 5, 1, 0] (L1 := [(0, .ref (ad 4)), (1, .int (xi p1)), (2, .int (xi p2)), (3, .int (xi p3)), (4, .int (xi r1)), (5, .int (xi 1))]) rfl ?_
  refine j_X1_layChannel_L22 C Z p1 p2 p3 r1 _ _ _ _ hLr9 ?_
  obtain rfl := Option.some.inj hM
  exact xj_vret C rfl dX1_layChannel_59
def rmX1_laySwitches : Room := { frames := 3, cells := 0, slots := 0, locals := 73 }
theorem hv_X1_laySwitches : yX1_laySwitches.cls = RX1 ∧ yX1_laySwitches.cls ≠ "java/lang/invoke/MethodHandle" ∧ yX1_laySwitches.cls ≠ "java/lang/invoke/VarHandle" ∧ (parseMethodDescriptor yX1_laySwitches.desc).map (fun d => d.parameters.length) = some 1 := by decide +kernel
def m_X1_laySwitches_L24 (p1 : Int) (p2 : Int) : Nat → Int → xS → Option (xS)
  | 0, _, _ => none
  | n + 1, v3, S => xck (xr v3) (if 2 ≤ v3 then some S else (m_X1_wireInto p1 p2 v3).bind (fun r7 => xck (0 ≤ ((p1 * 10) + ((2 + (p2 * 2)) + v3)) ∧ ((p1 * 10) + ((2 + (p2 * 2)) + v3)) < 160) ((m_X1_layChannel p1 p2 v3 (xup S 1 ((p1 * 10) + ((2 + (p2 * 2)) + v3)) r7)).bind (fun r9 => m_X1_laySwitches_L24 p1 p2 n (v3 + 1) r9))))
def m_X1_laySwitches_L17 (p1 : Int) : Nat → Int → xS → Option (xS)
  | 0, _, _ => none
  | n + 1, v2, S => xck (xr v2) (if 4 ≤ v2 then some S else (m_X1_laySwitches_L24 p1 v2 2000 0 S).bind (fun r10 => m_X1_laySwitches_L17 p1 n (v2 + 1) r10))
def m_X1_laySwitches (p1 : Int) (S : xS) : Option (xS) := (m_X1_outletOf p1).bind (fun r1 => xck (0 ≤ ((p1 * 10) + 1) ∧ ((p1 * 10) + 1) < 160) ((m_X1_laySwitches_L17 p1 2000 0 (xup S 1 ((p1 * 10) + 1) r1)).bind (fun r11 => some r11)))
set_option maxRecDepth 100000 in
set_option maxHeartbeats 4000000 in
theorem j_X1_laySwitches_L24 {l : Launch} {D : va_G} {k : Nat → ClassId} {ad : Nat → Nat} {o : xO} {X : xX} (C : xC D k o X cX1_laySwitches 5 RX1 wsX1_laySwitches none rmX1_laySwitches) {sa sb : Nat} (Z : xZ sa sb X) (p1 : Int) (p2 : Int) : ∀ (n : Nat) (v3 : Int) (S : xS) (r : xS), m_X1_laySwitches_L24 p1 p2 n v3 S = some r → (xJ l D k o X 5 69 [(0, .ref (ad 4)), (1, .int (xi p1)), (2, .int (xi p2))] [] (wF ad k r)) → xJ l D k o X 5 24 [(0, .ref (ad 4)), (1, .int (xi p1)), (2, .int (xi p2)), (3, .int (xi v3))] [] (wF ad k S) := by
  intro n
  induction n with
  | zero =>
    intro v3 S r hM
    cases hM
  | succ n ih =>
    intro v3 S r hM K
    unfold m_X1_laySwitches_L24 at hM
    refine xj_iload_n C 3 dX1_laySwitches_24 rfl rfl ?_
    refine xj_iconst C dX1_laySwitches_25 ?_
    obtain ⟨g5, hM⟩ := xck_some hM
    refine xj_icmp_ge C (tgt := 69) dX1_laySwitches_26 (by decide) ⟨g5, (by decide)⟩ (fun c6 => ?_) (fun c6 => ?_)
    · have hM := xit hM c6
      obtain rfl := Option.some.inj hM
      refine xj_loc C [0, 1, 2] (L1 := [(0, .ref (ad 4)), (1, .int (xi p1)), (2, .int (xi p2))]) rfl ?_
      exact K
    · have hM := xif hM c6
      refine xj_iconst C dX1_laySwitches_29 ?_
      refine xj_iload_n C 2 dX1_laySwitches_30 rfl rfl ?_
      refine xj_iconst C dX1_laySwitches_31 ?_
      refine xj_imul C dX1_laySwitches_32 ?_
      refine xj_iadd C dX1_laySwitches_33 ?_
      refine xj_iload_n C 3 dX1_laySwitches_34 rfl rfl ?_
      refine xj_iadd C dX1_laySwitches_35 ?_
      refine xj_istore C (L1 := [(4, .int (xi ((2 + (p2 * 2)) + v3))), (0, .ref (ad 4)), (1, .int (xi p1)), (2, .int (xi p2)), (3, .int (xi v3))]) dX1_laySwitches_36 (by decide) rfl ?_
      refine xj_aload_n C 1 dX1_laySwitches_38 rfl rfl ?_
      refine xj_get C (fun _ h => List.mem_cons_of_mem _ (List.mem_append_right _ h)) 4 (eF_4 ad k S) rfl 1 (by decide) (List.mem_of_getElem? (i := 1) rfl) (fun _ _ h => h) rfl dX1_laySwitches_39 ?_
      refine xj_iload_n C 2 dX1_laySwitches_42 rfl rfl ?_
      refine xj_bipush C (n := 10) (by decide) dX1_laySwitches_43 ?_
      refine xj_imul C dX1_laySwitches_45 ?_
      refine xj_iload C 0 dX1_laySwitches_46 rfl ?_
      refine xj_iadd C dX1_laySwitches_48 ?_
      refine xj_iload_n C 2 dX1_laySwitches_49 rfl rfl ?_
      refine xj_iload_n C 3 dX1_laySwitches_50 rfl rfl ?_
      refine xj_iload_n C 4 dX1_laySwitches_51 rfl rfl ?_
      obtain ⟨r7, hRr7, hM⟩ := xbd hM
      refine xj_callSZ C [.int (xi p1), .int (xi p2), .int (xi v3)] [.int (xi ((p1 * 10) + ((2 + (p2 * 2)) + v3))), .ref (ad 1)] 3 Z (c_X1_wireInto hRr7) gX1_laySwitches_X1_wireInto rfl ⟨rfl, rfl⟩ hv_X1_wireInto ⟨Nat.le_of_ble_eq_true rfl, Nat.le_of_ble_eq_true rfl⟩ rfl (Nat.le_of_ble_eq_true rfl) dX1_laySwitches_52 ?_
      obtain ⟨g8, hM⟩ := xck_some hM
      refine xj_iast C 1 S 1 (eF_1 ad k S) (Nat.le_of_ble_eq_true rfl) g8 (sF_1 ad k S ((p1 * 10) + ((2 + (p2 * 2)) + v3)) r7) dX1_laySwitches_55 ?_
      refine xj_aload_n C 1 dX1_laySwitches_56 rfl rfl ?_
      refine xj_iload_n C 2 dX1_laySwitches_57 rfl rfl ?_
      refine xj_iload_n C 3 dX1_laySwitches_58 rfl rfl ?_
      refine xj_iload_n C 4 dX1_laySwitches_59 rfl rfl ?_
      obtain ⟨r9, hRr9, hM⟩ := xbd hM
      refine xj_callVZ C [.int (xi p1), .int (xi p2), .int (xi v3)] [] 3 Z (c_X1_layChannel hRr9) gX1_laySwitches_X1_layChannel rfl ⟨rfl, rfl⟩ hv_X1_layChannel ⟨Nat.le_of_ble_eq_true rfl, Nat.le_of_ble_eq_true rfl⟩ 4 (eF_4 ad k _) rfl rfl (Nat.le_of_ble_eq_true rfl) dX1_laySwitches_60 ?_
      refine xj_iinc C 4 (L1 := [(3, .int (xi (v3 + 1))), (4, .int (xi ((2 + (p2 * 2)) + v3))), (0, .ref (ad 4)), (1, .int (xi p1)), (2, .int (xi p2))]) dX1_laySwitches_63 rfl (by decide) rfl ?_
      refine xj_goto C (tgt := 24) dX1_laySwitches_66 (by decide) ?_
      refine xj_loc C [2, 3, 4, 0] (L1 := [(0, .ref (ad 4)), (1, .int (xi p1)), (2, .int (xi p2)), (3, .int (xi (v3 + 1)))]) rfl ?_
      exact ih _ _ _ hM K
set_option maxRecDepth 100000 in
set_option maxHeartbeats 4000000 in
theorem j_X1_laySwitches_L17 {l : Launch} {D : va_G} {k : Nat → ClassId} {ad : Nat → Nat} {o : xO} {X : xX} (C : xC D k o X cX1_laySwitches 5 RX1 wsX1_laySwitches none rmX1_laySwitches) {sa sb : Nat} (Z : xZ sa sb X) (p1 : Int) : ∀ (n : Nat) (v2 : Int) (S : xS) (r : xS), m_X1_laySwitches_L17 p1 n v2 S = some r → (xJ l D k o X 5 75 [] [] (wF ad k r)) → xJ l D k o X 5 17 [(0, .ref (ad 4)), (1, .int (xi p1)), (2, .int (xi v2))] [] (wF ad k S) := by
  intro n
  induction n with
  | zero =>
    intro v2 S r hM
    cases hM
  | succ n ih =>
    intro v2 S r hM K
    unfold m_X1_laySwitches_L17 at hM
    refine xj_iload_n C 2 dX1_laySwitches_17 rfl rfl ?_
    refine xj_iconst C dX1_laySwitches_18 ?_
    obtain ⟨g3, hM⟩ := xck_some hM
    refine xj_icmp_ge C (tgt := 75) dX1_laySwitches_19 (by decide) ⟨g3, (by decide)⟩ (fun c4 => ?_) (fun c4 => ?_)
    · have hM := xit hM c4
      obtain rfl := Option.some.inj hM
      refine xj_loc C [] (L1 := []) rfl ?_
      exact K
    · have hM := xif hM c4
      refine xj_iconst C dX1_laySwitches_22 ?_
      refine xj_istore_n C (L1 := [(3, .int (xi 0)), (0, .ref (ad 4)), (1, .int (xi p1)), (2, .int (xi v2))]) dX1_laySwitches_23 rfl (by decide) rfl ?_
      obtain ⟨r10, hLr10, hM⟩ := xbd hM
      refine xj_loc C [1, 2, 3, 0] (L1 := [(0, .ref (ad 4)), (1, .int (xi p1)), (2, .int (xi v2)), (3, .int (xi 0))]) rfl ?_
      refine j_X1_laySwitches_L24 C Z p1 v2 _ _ _ _ hLr10 ?_
      refine xj_iinc C 2 (L1 := [(2, .int (xi (v2 + 1))), (0, .ref (ad 4)), (1, .int (xi p1))]) dX1_laySwitches_69 rfl (by decide) rfl ?_
      refine xj_goto C (tgt := 17) dX1_laySwitches_72 (by decide) ?_
      refine xj_loc C [1, 2, 0] (L1 := [(0, .ref (ad 4)), (1, .int (xi p1)), (2, .int (xi (v2 + 1)))]) rfl ?_
      exact ih _ _ _ hM K
set_option maxRecDepth 100000 in
set_option maxHeartbeats 4000000 in
theorem c_X1_laySwitches {l : Launch} {D : va_G} {k : Nat → ClassId} {sa sb : Nat} {ad : Nat → Nat} {S : xS} {p1 : Int} {res : xS} (hM : m_X1_laySwitches p1 S = some res) : xMZ sa sb l yX1_laySwitches wsX1_laySwitches rmX1_laySwitches D k [.ref (ad 4), .int (xi p1)] (wF ad k S) none (wF ad k res) := by
  refine xMZ_of (ret := none) (by decide) rfl (Nat.le_of_ble_eq_true rfl) (fun X C Z => ?_)
  have C : xC D k (xo X D k none (wF ad k res)) X cX1_laySwitches 5 RX1 wsX1_laySwitches none rmX1_laySwitches := C
  show xJ l D k (xo X D k none (wF ad k res)) X 5 0 [(0, .ref (ad 4)), (1, .int (xi p1))] [] (wF ad k S)
  unfold m_X1_laySwitches at hM
  refine xj_aload_n C 0 dX1_laySwitches_0 rfl rfl ?_
  refine xj_get C (fun _ h => List.mem_cons_of_mem _ (List.mem_append_right _ h)) 4 (eF_4 ad k S) rfl 1 (by decide) (List.mem_of_getElem? (i := 1) rfl) (fun _ _ h => h) rfl dX1_laySwitches_1 ?_
  refine xj_iload_n C 1 dX1_laySwitches_4 rfl rfl ?_
  refine xj_bipush C (n := 10) (by decide) dX1_laySwitches_5 ?_
  refine xj_imul C dX1_laySwitches_7 ?_
  refine xj_iconst C dX1_laySwitches_8 ?_
  refine xj_iadd C dX1_laySwitches_9 ?_
  refine xj_iload_n C 1 dX1_laySwitches_10 rfl rfl ?_
  obtain ⟨r1, hRr1, hM⟩ := xbd hM
  refine xj_callS C [.int (xi p1)] [.int (xi ((p1 * 10) + 1)), .ref (ad 1)] 1 (c_X1_outletOf hRr1) gX1_laySwitches_X1_outletOf rfl ⟨rfl, rfl⟩ hv_X1_outletOf ⟨Nat.le_of_ble_eq_true rfl, Nat.le_of_ble_eq_true rfl⟩ rfl (Nat.le_of_ble_eq_true rfl) dX1_laySwitches_11 ?_
  obtain ⟨g2, hM⟩ := xck_some hM
  refine xj_iast C 1 S 1 (eF_1 ad k S) (Nat.le_of_ble_eq_true rfl) g2 (sF_1 ad k S ((p1 * 10) + 1) r1) dX1_laySwitches_14 ?_
  refine xj_iconst C dX1_laySwitches_15 ?_
  refine xj_istore_n C (L1 := [(2, .int (xi 0)), (0, .ref (ad 4)), (1, .int (xi p1))]) dX1_laySwitches_16 rfl (by decide) rfl ?_
  obtain ⟨r11, hLr11, hM⟩ := xbd hM
  refine xj_loc C [1, 2, 0] (L1 := [(0, .ref (ad 4)), (1, .int (xi p1)), (2, .int (xi 0))]) rfl ?_
  refine j_X1_laySwitches_L17 C Z p1 _ _ _ _ hLr11 ?_
  obtain rfl := Option.some.inj hM
  exact xj_vret C rfl dX1_laySwitches_75
def rmX1_init : Room := { frames := 4, cells := 4, slots := 2212, locals := 97 }
theorem hv_X1_init : yX1_init.cls ≠ "java/lang/invoke/MethodHandle" ∧ yX1_init.cls ≠ "java/lang/invoke/VarHandle" ∧ (parseMethodDescriptor yX1_init.desc).map (fun d => d.parameters.length) = some 0 := by decide +kernel
def m_X1_init_L58 : Nat → Int → xS → Option (xS)
  | 0, _, _ => none
  | n + 1, v1, S => xck (xr v1) (if 16 ≤ v1 then some S else (m_X1_laySwitches v1 S).bind (fun r3 => m_X1_init_L58 n (v1 + 1) r3))
def m_X1_init : Option xS := (m_X1_init_L58 2000 0 (xfl (xfl xS0 0 720 (-1)) 1 160 (-1))).bind (fun r4 => some r4)
set_option maxRecDepth 100000 in
set_option maxHeartbeats 4000000 in
theorem j_X1_init_L58 {l : Launch} {D : va_G} {k : Nat → ClassId} {ad : Nat → Nat} {o : xO} {X : xX} (C : xC D k o X cX1_init 2 RX1 wsX1_init none rmX1_init) {sa sb : Nat} (Z : xZ sa sb X) : ∀ (n : Nat) (v1 : Int) (S : xS) (r : xS), m_X1_init_L58 n v1 S = some r → (xJ l D k o X 2 75 [] [] (wF ad k r)) → xJ l D k o X 2 58 [(0, .ref (ad 4)), (1, .int (xi v1))] [] (wF ad k S) := by
  intro n
  induction n with
  | zero =>
    intro v1 S r hM
    cases hM
  | succ n ih =>
    intro v1 S r hM K
    unfold m_X1_init_L58 at hM
    refine xj_iload_n C 1 dX1_init_58 rfl rfl ?_
    refine xj_bipush C (n := 16) (by decide) dX1_init_59 ?_
    obtain ⟨g1, hM⟩ := xck_some hM
    refine xj_icmp_ge C (tgt := 75) dX1_init_61 (by decide) ⟨g1, (by decide)⟩ (fun c2 => ?_) (fun c2 => ?_)
    · have hM := xit hM c2
      obtain rfl := Option.some.inj hM
      refine xj_loc C [] (L1 := []) rfl ?_
      exact K
    · have hM := xif hM c2
      refine xj_aload_n C 0 dX1_init_64 rfl rfl ?_
      refine xj_iload_n C 1 dX1_init_65 rfl rfl ?_
      obtain ⟨r3, hRr3, hM⟩ := xbd hM
      refine xj_callVZ C [.int (xi v1)] [] 1 Z (c_X1_laySwitches hRr3) gX1_init_X1_laySwitches rfl ⟨rfl, rfl⟩ hv_X1_laySwitches ⟨Nat.le_of_ble_eq_true rfl, Nat.le_of_ble_eq_true rfl⟩ 4 (eF_4 ad k _) rfl rfl (Nat.le_of_ble_eq_true rfl) dX1_init_66 ?_
      refine xj_iinc C 1 (L1 := [(1, .int (xi (v1 + 1))), (0, .ref (ad 4))]) dX1_init_69 rfl (by decide) rfl ?_
      refine xj_goto C (tgt := 58) dX1_init_72 (by decide) ?_
      refine xj_loc C [1, 0] (L1 := [(0, .ref (ad 4)), (1, .int (xi (v1 + 1)))]) rfl ?_
      exact ih _ _ _ hM K
set_option maxRecDepth 100000 in
set_option maxHeartbeats 8000000 in
theorem c_X1_init {sa sb : Nat} {l : Launch} {D : va_G} {k : Nat → ClassId} {h0 : Nat} {SF : xS} (hM : m_X1_init = some SF) : xN true sa sb l yX1_init wsX1_init rmX1_init D k [.ref h0] [(h0, .inr (1, [.null, .null, .null, .null]))] (fun w1 => ∃ ad : Nat → Nat, ad 4 = h0 ∧ w1 = wF ad k SF) 4 2212 := by
  refine xN_of (by decide) rfl rfl (Nat.le_of_ble_eq_true rfl) (fun X C hI hZ => ?_)
  have C : xC D k (xoc X D k _ 4 2212 0 0) X cX1_init 2 RX1 wsX1_init none rmX1_init := C
  show xJ l D k (xoc X D k _ 4 2212 0 0) X 2 0 [(0, .ref h0)] [] [(h0, .inr (1, [.null, .null, .null, .null]))]
  unfold m_X1_init at hM
  have Z := hZ rfl
  refine xj_aload_n C 0 dX1_init_0 rfl rfl ?_
  refine xj_objInit C (List.mem_of_getElem? (i := 1) rfl) (List.mem_of_getElem? (i := 2) rfl) (List.mem_of_getElem? (i := 3) rfl) (Nat.le_of_ble_eq_true rfl) (Nat.le_of_ble_eq_true rfl) dX1_init_1 ?_
  refine xj_aload_n C 0 dX1_init_4 rfl rfl ?_
  refine xj_sipush C (n := 720) (by decide) dX1_init_5 ?_
  refine xj_newI C xS0 0 (fun _ => rfl) (N := 720) rfl (Nat.le_of_ble_eq_true rfl) (List.mem_of_getElem? (i := 4) rfl) ⟨Nat.le_of_ble_eq_true rfl, Nat.le_of_ble_eq_true rfl⟩ dX1_init_8 (fun a1 C => ?_)
  show xJ l D k (1, 720, _) X 2 10 [(0, .ref h0)] [.ref a1, .ref h0] [(h0, .inr (1, [.null, .null, .null, .null])), (a1, .inl (k 0, 720, .inl (fun j => xi (xS0 0 (j : Int)))))]
  refine xj_putF C hI (fun _ h => List.mem_cons_of_mem _ (List.mem_append_right _ h)) tyX1 tyX1_ok nmX1 0 rfl rfl 0 (by decide) (List.mem_of_getElem? (i := 5) rfl) (fun _ _ h => h) rfl rfl rfl rfl (Nat.le_of_ble_eq_true rfl) (ws1 := [(h0, .inr (1, [.ref a1, .null, .null, .null])), (a1, .inl (k 0, 720, .inl (fun j => xi (xS0 0 (j : Int)))))]) rfl dX1_init_10 ?_
  refine xj_aload_n C 0 dX1_init_13 rfl rfl ?_
  refine xj_sipush C (n := 160) (by decide) dX1_init_14 ?_
  refine xj_newI C xS0 1 (fun _ => rfl) (N := 160) rfl (Nat.le_of_ble_eq_true rfl) (List.mem_of_getElem? (i := 4) rfl) ⟨Nat.le_of_ble_eq_true rfl, Nat.le_of_ble_eq_true rfl⟩ dX1_init_17 (fun a2 C => ?_)
  show xJ l D k (2, 880, _) X 2 19 [(0, .ref h0)] [.ref a2, .ref h0] [(h0, .inr (1, [.ref a1, .null, .null, .null])), (a1, .inl (k 0, 720, .inl (fun j => xi (xS0 0 (j : Int))))), (a2, .inl (k 0, 160, .inl (fun j => xi (xS0 1 (j : Int)))))]
  refine xj_putF C hI (fun _ h => List.mem_cons_of_mem _ (List.mem_append_right _ h)) tyX1 tyX1_ok nmX1 0 rfl rfl 1 (by decide) (List.mem_of_getElem? (i := 6) rfl) (fun _ _ h => h) rfl rfl rfl rfl (Nat.le_of_ble_eq_true rfl) (ws1 := [(h0, .inr (1, [.ref a1, .ref a2, .null, .null])), (a1, .inl (k 0, 720, .inl (fun j => xi (xS0 0 (j : Int))))), (a2, .inl (k 0, 160, .inl (fun j => xi (xS0 1 (j : Int)))))]) rfl dX1_init_19 ?_
  refine xj_aload_n C 0 dX1_init_22 rfl rfl ?_
  refine xj_sipush C (n := 1184) (by decide) dX1_init_23 ?_
  refine xj_newI C xS0 2 (fun _ => rfl) (N := 1184) rfl (Nat.le_of_ble_eq_true rfl) (List.mem_of_getElem? (i := 4) rfl) ⟨Nat.le_of_ble_eq_true rfl, Nat.le_of_ble_eq_true rfl⟩ dX1_init_26 (fun a3 C => ?_)
  show xJ l D k (3, 2064, _) X 2 28 [(0, .ref h0)] [.ref a3, .ref h0] [(h0, .inr (1, [.ref a1, .ref a2, .null, .null])), (a1, .inl (k 0, 720, .inl (fun j => xi (xS0 0 (j : Int))))), (a2, .inl (k 0, 160, .inl (fun j => xi (xS0 1 (j : Int))))), (a3, .inl (k 0, 1184, .inl (fun j => xi (xS0 2 (j : Int)))))]
  refine xj_putF C hI (fun _ h => List.mem_cons_of_mem _ (List.mem_append_right _ h)) tyX1 tyX1_ok nmX1 0 rfl rfl 2 (by decide) (List.mem_of_getElem? (i := 7) rfl) (fun _ _ h => h) rfl rfl rfl rfl (Nat.le_of_ble_eq_true rfl) (ws1 := [(h0, .inr (1, [.ref a1, .ref a2, .ref a3, .null])), (a1, .inl (k 0, 720, .inl (fun j => xi (xS0 0 (j : Int))))), (a2, .inl (k 0, 160, .inl (fun j => xi (xS0 1 (j : Int))))), (a3, .inl (k 0, 1184, .inl (fun j => xi (xS0 2 (j : Int)))))]) rfl dX1_init_28 ?_
  refine xj_aload_n C 0 dX1_init_31 rfl rfl ?_
  refine xj_sipush C (n := 148) (by decide) dX1_init_32 ?_
  refine xj_newI C xS0 3 (fun _ => rfl) (N := 148) rfl (Nat.le_of_ble_eq_true rfl) (List.mem_of_getElem? (i := 4) rfl) ⟨Nat.le_of_ble_eq_true rfl, Nat.le_of_ble_eq_true rfl⟩ dX1_init_35 (fun a4 C => ?_)
  show xJ l D k (4, 2212, _) X 2 37 [(0, .ref h0)] [.ref a4, .ref h0] [(h0, .inr (1, [.ref a1, .ref a2, .ref a3, .null])), (a1, .inl (k 0, 720, .inl (fun j => xi (xS0 0 (j : Int))))), (a2, .inl (k 0, 160, .inl (fun j => xi (xS0 1 (j : Int))))), (a3, .inl (k 0, 1184, .inl (fun j => xi (xS0 2 (j : Int))))), (a4, .inl (k 0, 148, .inl (fun j => xi (xS0 3 (j : Int)))))]
  refine xj_putF C hI (fun _ h => List.mem_cons_of_mem _ (List.mem_append_right _ h)) tyX1 tyX1_ok nmX1 0 rfl rfl 3 (by decide) (List.mem_of_getElem? (i := 8) rfl) (fun _ _ h => h) rfl rfl rfl rfl (Nat.le_of_ble_eq_true rfl) (ws1 := [(h0, .inr (1, [.ref a1, .ref a2, .ref a3, .ref a4])), (a1, .inl (k 0, 720, .inl (fun j => xi (xS0 0 (j : Int))))), (a2, .inl (k 0, 160, .inl (fun j => xi (xS0 1 (j : Int))))), (a3, .inl (k 0, 1184, .inl (fun j => xi (xS0 2 (j : Int))))), (a4, .inl (k 0, 148, .inl (fun j => xi (xS0 3 (j : Int)))))]) rfl dX1_init_37 ?_
  refine xj_aload_n C 0 dX1_init_40 rfl rfl ?_
  refine xj_get C (fun _ h => List.mem_cons_of_mem _ (List.mem_append_right _ h)) 0 rfl rfl 0 (by decide) (List.mem_of_getElem? (i := 5) rfl) (fun _ _ h => h) rfl dX1_init_41 ?_
  refine xj_iconst C dX1_init_44 ?_
  refine xj_callS C [.ref a1, .int (xi (-1))] [] 2 (c_fill (q0 := 1) (ws1 := [(h0, .inr (1, [.ref a1, .ref a2, .ref a3, .ref a4])), (a1, .inl (k 0, 720, .inl (fun j => xi ((xfl xS0 0 720 (-1)) 0 (j : Int))))), (a2, .inl (k 0, 160, .inl (fun j => xi (xS0 1 (j : Int))))), (a3, .inl (k 0, 1184, .inl (fun j => xi (xS0 2 (j : Int))))), (a4, .inl (k 0, 148, .inl (fun j => xi (xS0 3 (j : Int)))))]) rfl (Nat.le_of_ble_eq_true rfl) (by rw [← xfl_s xS0 0 720 (-1)]; rfl)) gX1_init_J7_fill_53178 rfl ⟨rfl, rfl⟩ hv_fill ⟨Nat.le_of_ble_eq_true rfl, Nat.le_of_ble_eq_true rfl⟩ rfl (Nat.le_of_ble_eq_true rfl) dX1_init_45 ?_
  refine xj_aload_n C 0 dX1_init_48 rfl rfl ?_
  refine xj_get C (fun _ h => List.mem_cons_of_mem _ (List.mem_append_right _ h)) 0 rfl rfl 1 (by decide) (List.mem_of_getElem? (i := 6) rfl) (fun _ _ h => h) rfl dX1_init_49 ?_
  refine xj_iconst C dX1_init_52 ?_
  refine xj_callS C [.ref a2, .int (xi (-1))] [] 2 (c_fill (q0 := 2) (ws1 := [(h0, .inr (1, [.ref a1, .ref a2, .ref a3, .ref a4])), (a1, .inl (k 0, 720, .inl (fun j => xi ((xfl xS0 0 720 (-1)) 0 (j : Int))))), (a2, .inl (k 0, 160, .inl (fun j => xi ((xfl xS0 1 160 (-1)) 1 (j : Int))))), (a3, .inl (k 0, 1184, .inl (fun j => xi (xS0 2 (j : Int))))), (a4, .inl (k 0, 148, .inl (fun j => xi (xS0 3 (j : Int)))))]) rfl (Nat.le_of_ble_eq_true rfl) (by rw [← xfl_s xS0 1 160 (-1)]; rfl)) gX1_init_J7_fill_53178 rfl ⟨rfl, rfl⟩ hv_fill ⟨Nat.le_of_ble_eq_true rfl, Nat.le_of_ble_eq_true rfl⟩ rfl (Nat.le_of_ble_eq_true rfl) dX1_init_53 ?_
  refine xj_iconst C dX1_init_56 ?_
  refine xj_istore_n C (L1 := [(1, .int (xi 0)), (0, .ref h0)]) dX1_init_57 rfl (by decide) rfl ?_
  refine xj_perm C [1, 2, 3, 4, 0] (ws1 := wF (xad [a1, a2, a3, a4, h0]) k (xfl (xfl xS0 0 720 (-1)) 1 160 (-1))) rfl (by decide) ?_
  show xJ l D k _ X 2 58 [(1, .int (xi 0)), (0, .ref (xad [a1, a2, a3, a4, h0] 4))] [] (wF (xad [a1, a2, a3, a4, h0]) k (xfl (xfl xS0 0 720 (-1)) 1 160 (-1)))
  obtain ⟨ad, had⟩ : ∃ ad : Nat → Nat, ad = xad [a1, a2, a3, a4, h0] := ⟨_, rfl⟩
  rw [← had]
  obtain ⟨r4, hLr4, hM⟩ := xbd hM
  refine xj_loc C [1, 0] (L1 := [(0, .ref (ad 4)), (1, .int (xi 0))]) rfl ?_
  refine j_X1_init_L58 C Z _ _ _ _ hLr4 ?_
  obtain rfl := Option.some.inj hM
  exact xj_cret C rfl ⟨ad, by rw [had]; rfl, rfl⟩ dX1_init_75
