/-! mirrors and contracts (by program: wip/whole/gen.py, mkparts.py) -/
def rmX9_in : Room := { frames := 0, cells := 0, slots := 0, locals := 0 }
theorem hv_X9_in : yX9_in.cls ≠ "java/lang/invoke/MethodHandle" ∧ yX9_in.cls ≠ "java/lang/invoke/VarHandle" ∧ (parseMethodDescriptor yX9_in.desc).map (fun d => d.parameters.length) = some 3 := by decide +kernel
def m_X9_in (p0 : Int) (p1 : Int) (p2 : Int) : Option (Int) := xck (xr p0 ∧ xr p1) (if p0 < p1 then some 0 else xck (xr p2) (if p2 < p0 then some 0 else some 1))
set_option maxRecDepth 100000 in
set_option maxHeartbeats 4000000 in
theorem c_X9_in {l : Launch} {D : va_G} {k : Nat → ClassId} {w : va_W} {p0 : Int} {p1 : Int} {p2 : Int} {res : Int} (hM : m_X9_in p0 p1 p2 = some res) : xM l yX9_in wsX9_in rmX9_in D k [.int (xi p0), .int (xi p1), .int (xi p2)] w (some (.int (xi res))) w := by
  refine xM_of (ret := (some .boolean)) (by decide) rfl (Nat.le_of_ble_eq_true rfl) (fun X C => ?_)
  have C : xC D k (xo X D k (some (.int (xi res))) w) X cX9_in 3 RX9 wsX9_in (some .boolean) rmX9_in := C
  show xJ l D k (xo X D k (some (.int (xi res))) w) X 3 0 [(0, .int (xi p0)), (1, .int (xi p1)), (2, .int (xi p2))] [] w
  unfold m_X9_in at hM
  refine xj_iload_n C 0 dX9_in_0 rfl rfl ?_
  refine xj_iload_n C 1 dX9_in_1 rfl rfl ?_
  obtain ⟨g1, hM⟩ := xck_some hM
  refine xj_icmp_lt C (tgt := 14) dX9_in_2 (by decide) ⟨g1.1, g1.2⟩ (fun c2 => ?_) (fun c2 => ?_)
  · have hM := xit hM c2
    refine xj_iconst C dX9_in_14 ?_
    obtain rfl := Option.some.inj hM
    exact xj_zret (Or.inl rfl) C rfl dX9_in_15
  · have hM := xif hM c2
    refine xj_iload_n C 0 dX9_in_5 rfl rfl ?_
    refine xj_iload_n C 2 dX9_in_6 rfl rfl ?_
    obtain ⟨g3, hM⟩ := xck_some hM
    refine xj_icmp_gt C (tgt := 14) dX9_in_7 (by decide) ⟨g1.1, g3⟩ (fun c4 => ?_) (fun c4 => ?_)
    · have hM := xit hM c4
      refine xj_iconst C dX9_in_14 ?_
      obtain rfl := Option.some.inj hM
      exact xj_zret (Or.inl rfl) C rfl dX9_in_15
    · have hM := xif hM c4
      refine xj_iconst C dX9_in_10 ?_
      refine xj_goto C (tgt := 15) dX9_in_11 (by decide) ?_
      obtain rfl := Option.some.inj hM
      exact xj_zret (Or.inr rfl) C rfl dX9_in_15
def rmX9_channel : Room := { frames := 0, cells := 0, slots := 0, locals := 0 }
theorem hv_X9_channel : yX9_channel.cls ≠ "java/lang/invoke/MethodHandle" ∧ yX9_channel.cls ≠ "java/lang/invoke/VarHandle" ∧ (parseMethodDescriptor yX9_channel.desc).map (fun d => d.parameters.length) = some 3 := by decide +kernel
def m_X9_channel (p0 : Int) (p1 : Int) (p2 : Int) : Option (Int) := some ((((9 * p0) + 1) + (2 * p1)) + p2)
set_option maxRecDepth 100000 in
set_option maxHeartbeats 4000000 in
theorem c_X9_channel {l : Launch} {D : va_G} {k : Nat → ClassId} {w : va_W} {p0 : Int} {p1 : Int} {p2 : Int} {res : Int} (hM : m_X9_channel p0 p1 p2 = some res) : xM l yX9_channel wsX9_channel rmX9_channel D k [.int (xi p0), .int (xi p1), .int (xi p2)] w (some (.int (xi res))) w := by
  refine xM_of (ret := (some .int)) (by decide) rfl (Nat.le_of_ble_eq_true rfl) (fun X C => ?_)
  have C : xC D k (xo X D k (some (.int (xi res))) w) X cX9_channel 3 RX9 wsX9_channel (some .int) rmX9_channel := C
  show xJ l D k (xo X D k (some (.int (xi res))) w) X 3 0 [(0, .int (xi p0)), (1, .int (xi p1)), (2, .int (xi p2))] [] w
  unfold m_X9_channel at hM
  refine xj_bipush C (n := 9) (by decide) dX9_channel_0 ?_
  refine xj_iload_n C 0 dX9_channel_2 rfl rfl ?_
  refine xj_imul C dX9_channel_3 ?_
  refine xj_iconst C dX9_channel_4 ?_
  refine xj_iadd C dX9_channel_5 ?_
  refine xj_iconst C dX9_channel_6 ?_
  refine xj_iload_n C 1 dX9_channel_7 rfl rfl ?_
  refine xj_imul C dX9_channel_8 ?_
  refine xj_iadd C dX9_channel_9 ?_
  refine xj_iload_n C 2 dX9_channel_10 rfl rfl ?_
  refine xj_iadd C dX9_channel_11 ?_
  obtain rfl := Option.some.inj hM
  exact xj_iret C rfl dX9_channel_12
def rmX9_comesIn : Room := { frames := 1, cells := 0, slots := 0, locals := 22 }
theorem hv_X9_comesIn : yX9_comesIn.cls ≠ "java/lang/invoke/MethodHandle" ∧ yX9_comesIn.cls ≠ "java/lang/invoke/VarHandle" ∧ (parseMethodDescriptor yX9_comesIn.desc).map (fun d => d.parameters.length) = some 3 := by decide +kernel
def m_X9_comesIn (p0 : Int) (p1 : Int) (p2 : Int) : Option (Int) := xck (0 ≤ p0 ∧ p0 ≤ 2147483647) (xck (xr p1) (if p1 = 3 then xck (xr (p0 % 4)) (if (p0 % 4) = 0 then xck (xr p2) (if p2 = 0 then some (144 + (p0 / 4)) else some (-1)) else (if p1 = 0 then xck (xr (p0 / 4)) (if (p0 / 4) = 0 then some (-1) else (if p1 = 1 then (if (p0 % 4) = 3 then some (-1) else (if p1 = 2 then (if (p0 / 4) = 3 then some (-1) else ((if p1 = 0 then some (p0 - 4) else (if p1 = 1 then some (p0 + 1) else (if p1 = 2 then some (p0 + 4) else some (p0 - 1))))).bind (fun r132 => xck (0 ≤ (p1 + 2) ∧ (p1 + 2) ≤ 2147483647) ((m_X9_channel r132 ((p1 + 2) % 4) p2).bind (fun r137 => some r137)))) else ((if p1 = 0 then some (p0 - 4) else (if p1 = 1 then some (p0 + 1) else (if p1 = 2 then some (p0 + 4) else some (p0 - 1))))).bind (fun r125 => xck (0 ≤ (p1 + 2) ∧ (p1 + 2) ≤ 2147483647) ((m_X9_channel r125 ((p1 + 2) % 4) p2).bind (fun r130 => some r130))))) else (if p1 = 2 then (if (p0 / 4) = 3 then some (-1) else ((if p1 = 0 then some (p0 - 4) else (if p1 = 1 then some (p0 + 1) else (if p1 = 2 then some (p0 + 4) else some (p0 - 1))))).bind (fun r117 => xck (0 ≤ (p1 + 2) ∧ (p1 + 2) ≤ 2147483647) ((m_X9_channel r117 ((p1 + 2) % 4) p2).bind (fun r122 => some r122)))) else ((if p1 = 0 then some (p0 - 4) else (if p1 = 1 then some (p0 + 1) else (if p1 = 2 then some (p0 + 4) else some (p0 - 1))))).bind (fun r110 => xck (0 ≤ (p1 + 2) ∧ (p1 + 2) ≤ 2147483647) ((m_X9_channel r110 ((p1 + 2) % 4) p2).bind (fun r115 => some r115)))))) else (if p1 = 1 then (if (p0 % 4) = 3 then some (-1) else (if p1 = 2 then xck (xr (p0 / 4)) (if (p0 / 4) = 3 then some (-1) else ((if p1 = 0 then some (p0 - 4) else (if p1 = 1 then some (p0 + 1) else (if p1 = 2 then some (p0 + 4) else some (p0 - 1))))).bind (fun r100 => xck (0 ≤ (p1 + 2) ∧ (p1 + 2) ≤ 2147483647) ((m_X9_channel r100 ((p1 + 2) % 4) p2).bind (fun r105 => some r105)))) else ((if p1 = 0 then some (p0 - 4) else (if p1 = 1 then some (p0 + 1) else (if p1 = 2 then some (p0 + 4) else some (p0 - 1))))).bind (fun r92 => xck (0 ≤ (p1 + 2) ∧ (p1 + 2) ≤ 2147483647) ((m_X9_channel r92 ((p1 + 2) % 4) p2).bind (fun r97 => some r97))))) else (if p1 = 2 then xck (xr (p0 / 4)) (if (p0 / 4) = 3 then some (-1) else ((if p1 = 0 then some (p0 - 4) else (if p1 = 1 then some (p0 + 1) else (if p1 = 2 then some (p0 + 4) else some (p0 - 1))))).bind (fun r84 => xck (0 ≤ (p1 + 2) ∧ (p1 + 2) ≤ 2147483647) ((m_X9_channel r84 ((p1 + 2) % 4) p2).bind (fun r89 => some r89)))) else ((if p1 = 0 then some (p0 - 4) else (if p1 = 1 then some (p0 + 1) else (if p1 = 2 then some (p0 + 4) else some (p0 - 1))))).bind (fun r76 => xck (0 ≤ (p1 + 2) ∧ (p1 + 2) ≤ 2147483647) ((m_X9_channel r76 ((p1 + 2) % 4) p2).bind (fun r81 => some r81))))))) else (if p1 = 0 then xck (xr (p0 / 4)) (if (p0 / 4) = 0 then some (-1) else (if p1 = 1 then xck (xr (p0 % 4)) (if (p0 % 4) = 3 then some (-1) else (if p1 = 2 then (if (p0 / 4) = 3 then some (-1) else ((if p1 = 0 then some (p0 - 4) else (if p1 = 1 then some (p0 + 1) else (if p1 = 2 then some (p0 + 4) else some (p0 - 1))))).bind (fun r65 => xck (0 ≤ (p1 + 2) ∧ (p1 + 2) ≤ 2147483647) ((m_X9_channel r65 ((p1 + 2) % 4) p2).bind (fun r70 => some r70)))) else ((if p1 = 0 then some (p0 - 4) else (if p1 = 1 then some (p0 + 1) else (if p1 = 2 then some (p0 + 4) else some (p0 - 1))))).bind (fun r58 => xck (0 ≤ (p1 + 2) ∧ (p1 + 2) ≤ 2147483647) ((m_X9_channel r58 ((p1 + 2) % 4) p2).bind (fun r63 => some r63))))) else (if p1 = 2 then (if (p0 / 4) = 3 then some (-1) else ((if p1 = 0 then some (p0 - 4) else (if p1 = 1 then some (p0 + 1) else (if p1 = 2 then some (p0 + 4) else some (p0 - 1))))).bind (fun r49 => xck (0 ≤ (p1 + 2) ∧ (p1 + 2) ≤ 2147483647) ((m_X9_channel r49 ((p1 + 2) % 4) p2).bind (fun r54 => some r54)))) else ((if p1 = 0 then some (p0 - 4) else (if p1 = 1 then some (p0 + 1) else (if p1 = 2 then some (p0 + 4) else some (p0 - 1))))).bind (fun r42 => xck (0 ≤ (p1 + 2) ∧ (p1 + 2) ≤ 2147483647) ((m_X9_channel r42 ((p1 + 2) % 4) p2).bind (fun r47 => some r47)))))) else (if p1 = 1 then xck (xr (p0 % 4)) (if (p0 % 4) = 3 then some (-1) else (if p1 = 2 then xck (xr (p0 / 4)) (if (p0 / 4) = 3 then some (-1) else ((if p1 = 0 then some (p0 - 4) else (if p1 = 1 then some (p0 + 1) else (if p1 = 2 then some (p0 + 4) else some (p0 - 1))))).bind (fun r32 => xck (0 ≤ (p1 + 2) ∧ (p1 + 2) ≤ 2147483647) ((m_X9_channel r32 ((p1 + 2) % 4) p2).bind (fun r37 => some r37)))) else ((if p1 = 0 then some (p0 - 4) else (if p1 = 1 then some (p0 + 1) else (if p1 = 2 then some (p0 + 4) else some (p0 - 1))))).bind (fun r24 => xck (0 ≤ (p1 + 2) ∧ (p1 + 2) ≤ 2147483647) ((m_X9_channel r24 ((p1 + 2) % 4) p2).bind (fun r29 => some r29))))) else (if p1 = 2 then xck (xr (p0 / 4)) (if (p0 / 4) = 3 then some (-1) else ((if p1 = 0 then some (p0 - 4) else (if p1 = 1 then some (p0 + 1) else (if p1 = 2 then some (p0 + 4) else some (p0 - 1))))).bind (fun r15 => xck (0 ≤ (p1 + 2) ∧ (p1 + 2) ≤ 2147483647) ((m_X9_channel r15 ((p1 + 2) % 4) p2).bind (fun r20 => some r20)))) else ((if p1 = 0 then some (p0 - 4) else (if p1 = 1 then some (p0 + 1) else (if p1 = 2 then some (p0 + 4) else some (p0 - 1))))).bind (fun r7 => xck (0 ≤ (p1 + 2) ∧ (p1 + 2) ≤ 2147483647) ((m_X9_channel r7 ((p1 + 2) % 4) p2).bind (fun r12 => some r12))))))))
set_option maxRecDepth 100000 in
set_option maxHeartbeats 4000000 in
theorem c_X9_comesIn {l : Launch} {D : va_G} {k : Nat → ClassId} {w : va_W} {p0 : Int} {p1 : Int} {p2 : Int} {res : Int} (hM : m_X9_comesIn p0 p1 p2 = some res) : xM l yX9_comesIn wsX9_comesIn rmX9_comesIn D k [.int (xi p0), .int (xi p1), .int (xi p2)] w (some (.int (xi res))) w := by
  refine xM_of (ret := (some .int)) (by decide) rfl (Nat.le_of_ble_eq_true rfl) (fun X C => ?_)
  have C : xC D k (xo X D k (some (.int (xi res))) w) X cX9_comesIn 6 RX9 wsX9_comesIn (some .int) rmX9_comesIn := C
  show xJ l D k (xo X D k (some (.int (xi res))) w) X 6 0 [(0, .int (xi p0)), (1, .int (xi p1)), (2, .int (xi p2))] [] w
  unfold m_X9_comesIn at hM
  refine xj_iload_n C 0 dX9_comesIn_0 rfl rfl ?_
  refine xj_iconst C dX9_comesIn_1 ?_
  obtain ⟨g1, hM⟩ := xck_some hM
  refine xj_idiv C ⟨g1.1, g1.2, by decide, by decide⟩ dX9_comesIn_2 ?_
  refine xj_istore_n C (L1 := [(3, .int (xi (p0 / 4))), (0, .int (xi p0)), (1, .int (xi p1)), (2, .int (xi p2))]) dX9_comesIn_3 rfl (by decide) rfl ?_
  refine xj_iload_n C 1 dX9_comesIn_4 rfl rfl ?_
  refine xj_iconst C dX9_comesIn_5 ?_
  refine xj_irem C ⟨g1.1, g1.2, by decide, by decide⟩ dX9_comesIn_6 ?_
  refine xj_istore C (L1 := [(4, .int (xi (p0 % 4))), (3, .int (xi (p0 / 4))), (0, .int (xi p0)), (1, .int (xi p1)), (2, .int (xi p2))]) dX9_comesIn_7 (by decide) rfl ?_
  refine xj_iload_n C 3 dX9_comesIn_9 rfl rfl ?_
  refine xj_iconst C dX9_comesIn_10 ?_
  obtain ⟨g2, hM⟩ := xck_some hM
  refine xj_icmp_ne C (tgt := 33) dX9_comesIn_11 (by decide) ⟨g2, (by decide)⟩ (fun c3 => ?_) (fun c3 => ?_)
  · have hM := xif hM c3
    refine xj_iload_n C 3 dX9_comesIn_33 rfl rfl ?_
    refine xj_if_ne C (tgt := 41) dX9_comesIn_34 (by decide) g2 (fun c4 => ?_) (fun c4 => ?_)
    · have hM := xif hM c4
      refine xj_iload_n C 3 dX9_comesIn_41 rfl rfl ?_
      refine xj_iconst C dX9_comesIn_42 ?_
      refine xj_icmp_ne C (tgt := 52) dX9_comesIn_43 (by decide) ⟨g2, (by decide)⟩ (fun c5 => ?_) (fun c5 => ?_)
      · have hM := xif hM c5
        refine xj_iload_n C 3 dX9_comesIn_52 rfl rfl ?_
        refine xj_iconst C dX9_comesIn_53 ?_
        refine xj_icmp_ne C (tgt := 64) dX9_comesIn_54 (by decide) ⟨g2, (by decide)⟩ (fun c6 => ?_) (fun c6 => ?_)
        · have hM := xif hM c6
          refine xj_iload_n C 3 dX9_comesIn_64 rfl rfl ?_
          obtain ⟨r7, hRr7, hM⟩ := xbd hM
          have Kr7 : xJ l D k (xo X D k (some (.int (xi res))) w) X 6 99 [(1, .int (xi p1)), (2, .int (xi p2))] [.int (xi r7)] w := by
            refine xj_istore C (L1 := [(5, .int (xi r7)), (1, .int (xi p1)), (2, .int (xi p2))]) dX9_comesIn_99 (by decide) rfl ?_
            refine xj_iload C 0 dX9_comesIn_101 rfl ?_
            refine xj_iload_n C 1 dX9_comesIn_103 rfl rfl ?_
            refine xj_iconst C dX9_comesIn_104 ?_
            refine xj_iadd C dX9_comesIn_105 ?_
            refine xj_iconst C dX9_comesIn_106 ?_
            obtain ⟨g11, hM⟩ := xck_some hM
            refine xj_irem C ⟨g11.1, g11.2, by decide, by decide⟩ dX9_comesIn_107 ?_
            refine xj_iload_n C 2 dX9_comesIn_108 rfl rfl ?_
            obtain ⟨r12, hRr12, hM⟩ := xbd hM
            refine xj_callS C [.int (xi r7), .int (xi ((p1 + 2) % 4)), .int (xi p2)] [] 3 (c_X9_channel hRr12) gX9_comesIn_X9_channel rfl ⟨rfl, rfl⟩ hv_X9_channel ⟨Nat.le_of_ble_eq_true rfl, Nat.le_of_ble_eq_true rfl⟩ rfl (Nat.le_of_ble_eq_true rfl) dX9_comesIn_109 ?_
            obtain rfl := Option.some.inj hM
            exact xj_iret C rfl dX9_comesIn_112
          clear hM
          have hM := hRr7
          refine xj_if_ne C (tgt := 74) dX9_comesIn_65 (by decide) g2 (fun c8 => ?_) (fun c8 => ?_)
          · have hM := xif hM c8
            refine xj_iload_n C 3 dX9_comesIn_74 rfl rfl ?_
            refine xj_iconst C dX9_comesIn_75 ?_
            refine xj_icmp_ne C (tgt := 85) dX9_comesIn_76 (by decide) ⟨g2, (by decide)⟩ (fun c9 => ?_) (fun c9 => ?_)
            · have hM := xif hM c9
              refine xj_iload_n C 3 dX9_comesIn_85 rfl rfl ?_
              refine xj_iconst C dX9_comesIn_86 ?_
              refine xj_icmp_ne C (tgt := 96) dX9_comesIn_87 (by decide) ⟨g2, (by decide)⟩ (fun c10 => ?_) (fun c10 => ?_)
              · have hM := xif hM c10
                refine xj_iload_n C 2 dX9_comesIn_96 rfl rfl ?_
                refine xj_iconst C dX9_comesIn_97 ?_
                refine xj_isub C dX9_comesIn_98 ?_
                obtain rfl := Option.some.inj hM
                refine xj_loc C [3, 4] (L1 := [(1, .int (xi p1)), (2, .int (xi p2))]) rfl ?_
                exact Kr7
              · have hM := xit hM c10
                refine xj_iload_n C 2 dX9_comesIn_90 rfl rfl ?_
                refine xj_iconst C dX9_comesIn_91 ?_
                refine xj_iadd C dX9_comesIn_92 ?_
                refine xj_goto C (tgt := 99) dX9_comesIn_93 (by decide) ?_
                obtain rfl := Option.some.inj hM
                refine xj_loc C [3, 4] (L1 := [(1, .int (xi p1)), (2, .int (xi p2))]) rfl ?_
                exact Kr7
            · have hM := xit hM c9
              refine xj_iload_n C 2 dX9_comesIn_79 rfl rfl ?_
              refine xj_iconst C dX9_comesIn_80 ?_
              refine xj_iadd C dX9_comesIn_81 ?_
              refine xj_goto C (tgt := 99) dX9_comesIn_82 (by decide) ?_
              obtain rfl := Option.some.inj hM
              refine xj_loc C [3, 4] (L1 := [(1, .int (xi p1)), (2, .int (xi p2))]) rfl ?_
              exact Kr7
          · have hM := xit hM c8
            refine xj_iload_n C 2 dX9_comesIn_68 rfl rfl ?_
            refine xj_iconst C dX9_comesIn_69 ?_
            refine xj_isub C dX9_comesIn_70 ?_
            refine xj_goto C (tgt := 99) dX9_comesIn_71 (by decide) ?_
            obtain rfl := Option.some.inj hM
            refine xj_loc C [3, 4] (L1 := [(1, .int (xi p1)), (2, .int (xi p2))]) rfl ?_
            exact Kr7
        · have hM := xit hM c6
          refine xj_iload_n C 1 dX9_comesIn_57 rfl rfl ?_
          refine xj_iconst C dX9_comesIn_58 ?_
          obtain ⟨g13, hM⟩ := xck_some hM
          refine xj_icmp_ne C (tgt := 64) dX9_comesIn_59 (by decide) ⟨g13, (by decide)⟩ (fun c14 => ?_) (fun c14 => ?_)
          · have hM := xif hM c14
            refine xj_iload_n C 3 dX9_comesIn_64 rfl rfl ?_
            obtain ⟨r15, hRr15, hM⟩ := xbd hM
            have Kr15 : xJ l D k (xo X D k (some (.int (xi res))) w) X 6 99 [(1, .int (xi p1)), (2, .int (xi p2))] [.int (xi r15)] w := by
              refine xj_istore C (L1 := [(5, .int (xi r15)), (1, .int (xi p1)), (2, .int (xi p2))]) dX9_comesIn_99 (by decide) rfl ?_
              refine xj_iload C 0 dX9_comesIn_101 rfl ?_
              refine xj_iload_n C 1 dX9_comesIn_103 rfl rfl ?_
              refine xj_iconst C dX9_comesIn_104 ?_
              refine xj_iadd C dX9_comesIn_105 ?_
              refine xj_iconst C dX9_comesIn_106 ?_
              obtain ⟨g19, hM⟩ := xck_some hM
              refine xj_irem C ⟨g19.1, g19.2, by decide, by decide⟩ dX9_comesIn_107 ?_
              refine xj_iload_n C 2 dX9_comesIn_108 rfl rfl ?_
              obtain ⟨r20, hRr20, hM⟩ := xbd hM
              refine xj_callS C [.int (xi r15), .int (xi ((p1 + 2) % 4)), .int (xi p2)] [] 3 (c_X9_channel hRr20) gX9_comesIn_X9_channel rfl ⟨rfl, rfl⟩ hv_X9_channel ⟨Nat.le_of_ble_eq_true rfl, Nat.le_of_ble_eq_true rfl⟩ rfl (Nat.le_of_ble_eq_true rfl) dX9_comesIn_109 ?_
              obtain rfl := Option.some.inj hM
              exact xj_iret C rfl dX9_comesIn_112
            clear hM
            have hM := hRr15
            refine xj_if_ne C (tgt := 74) dX9_comesIn_65 (by decide) g2 (fun c16 => ?_) (fun c16 => ?_)
            · have hM := xif hM c16
              refine xj_iload_n C 3 dX9_comesIn_74 rfl rfl ?_
              refine xj_iconst C dX9_comesIn_75 ?_
              refine xj_icmp_ne C (tgt := 85) dX9_comesIn_76 (by decide) ⟨g2, (by decide)⟩ (fun c17 => ?_) (fun c17 => ?_)
              · have hM := xif hM c17
                refine xj_iload_n C 3 dX9_comesIn_85 rfl rfl ?_
                refine xj_iconst C dX9_comesIn_86 ?_
                refine xj_icmp_ne C (tgt := 96) dX9_comesIn_87 (by decide) ⟨g2, (by decide)⟩ (fun c18 => ?_) (fun c18 => ?_)
                · have hM := xif hM c18
                  refine xj_iload_n C 2 dX9_comesIn_96 rfl rfl ?_
                  refine xj_iconst C dX9_comesIn_97 ?_
                  refine xj_isub C dX9_comesIn_98 ?_
                  obtain rfl := Option.some.inj hM
                  refine xj_loc C [3, 4] (L1 := [(1, .int (xi p1)), (2, .int (xi p2))]) rfl ?_
                  exact Kr15
                · have hM := xit hM c18
                  refine xj_iload_n C 2 dX9_comesIn_90 rfl rfl ?_
                  refine xj_iconst C dX9_comesIn_91 ?_
                  refine xj_iadd C dX9_comesIn_92 ?_
                  refine xj_goto C (tgt := 99) dX9_comesIn_93 (by decide) ?_
                  obtain rfl := Option.some.inj hM
                  refine xj_loc C [3, 4] (L1 := [(1, .int (xi p1)), (2, .int (xi p2))]) rfl ?_
                  exact Kr15
              · have hM := xit hM c17
                refine xj_iload_n C 2 dX9_comesIn_79 rfl rfl ?_
                refine xj_iconst C dX9_comesIn_80 ?_
                refine xj_iadd C dX9_comesIn_81 ?_
                refine xj_goto C (tgt := 99) dX9_comesIn_82 (by decide) ?_
                obtain rfl := Option.some.inj hM
                refine xj_loc C [3, 4] (L1 := [(1, .int (xi p1)), (2, .int (xi p2))]) rfl ?_
                exact Kr15
            · have hM := xit hM c16
              refine xj_iload_n C 2 dX9_comesIn_68 rfl rfl ?_
              refine xj_iconst C dX9_comesIn_69 ?_
              refine xj_isub C dX9_comesIn_70 ?_
              refine xj_goto C (tgt := 99) dX9_comesIn_71 (by decide) ?_
              obtain rfl := Option.some.inj hM
              refine xj_loc C [3, 4] (L1 := [(1, .int (xi p1)), (2, .int (xi p2))]) rfl ?_
              exact Kr15
          · have hM := xit hM c14
            refine xj_iconst C dX9_comesIn_62 ?_
            obtain rfl := Option.some.inj hM
            exact xj_iret C rfl dX9_comesIn_63
      · have hM := xit hM c5
        refine xj_iload C 0 dX9_comesIn_46 rfl ?_
        refine xj_iconst C dX9_comesIn_48 ?_
        obtain ⟨g21, hM⟩ := xck_some hM
        refine xj_icmp_eq C (tgt := 62) dX9_comesIn_49 (by decide) ⟨g21, (by decide)⟩ (fun c22 => ?_) (fun c22 => ?_)
        · have hM := xit hM c22
          refine xj_iconst C dX9_comesIn_62 ?_
          obtain rfl := Option.some.inj hM
          exact xj_iret C rfl dX9_comesIn_63
        · have hM := xif hM c22
          refine xj_iload_n C 3 dX9_comesIn_52 rfl rfl ?_
          refine xj_iconst C dX9_comesIn_53 ?_
          refine xj_icmp_ne C (tgt := 64) dX9_comesIn_54 (by decide) ⟨g2, (by decide)⟩ (fun c23 => ?_) (fun c23 => ?_)
          · have hM := xif hM c23
            refine xj_iload_n C 3 dX9_comesIn_64 rfl rfl ?_
            obtain ⟨r24, hRr24, hM⟩ := xbd hM
            have Kr24 : xJ l D k (xo X D k (some (.int (xi res))) w) X 6 99 [(1, .int (xi p1)), (2, .int (xi p2))] [.int (xi r24)] w := by
              refine xj_istore C (L1 := [(5, .int (xi r24)), (1, .int (xi p1)), (2, .int (xi p2))]) dX9_comesIn_99 (by decide) rfl ?_
              refine xj_iload C 0 dX9_comesIn_101 rfl ?_
              refine xj_iload_n C 1 dX9_comesIn_103 rfl rfl ?_
              refine xj_iconst C dX9_comesIn_104 ?_
              refine xj_iadd C dX9_comesIn_105 ?_
              refine xj_iconst C dX9_comesIn_106 ?_
              obtain ⟨g28, hM⟩ := xck_some hM
              refine xj_irem C ⟨g28.1, g28.2, by decide, by decide⟩ dX9_comesIn_107 ?_
              refine xj_iload_n C 2 dX9_comesIn_108 rfl rfl ?_
              obtain ⟨r29, hRr29, hM⟩ := xbd hM
              refine xj_callS C [.int (xi r24), .int (xi ((p1 + 2) % 4)), .int (xi p2)] [] 3 (c_X9_channel hRr29) gX9_comesIn_X9_channel rfl ⟨rfl, rfl⟩ hv_X9_channel ⟨Nat.le_of_ble_eq_true rfl, Nat.le_of_ble_eq_true rfl⟩ rfl (Nat.le_of_ble_eq_true rfl) dX9_comesIn_109 ?_
              obtain rfl := Option.some.inj hM
              exact xj_iret C rfl dX9_comesIn_112
            clear hM
            have hM := hRr24
            refine xj_if_ne C (tgt := 74) dX9_comesIn_65 (by decide) g2 (fun c25 => ?_) (fun c25 => ?_)
            · have hM := xif hM c25
              refine xj_iload_n C 3 dX9_comesIn_74 rfl rfl ?_
              refine xj_iconst C dX9_comesIn_75 ?_
              refine xj_icmp_ne C (tgt := 85) dX9_comesIn_76 (by decide) ⟨g2, (by decide)⟩ (fun c26 => ?_) (fun c26 => ?_)
              · have hM := xif hM c26
                refine xj_iload_n C 3 dX9_comesIn_85 rfl rfl ?_
                refine xj_iconst C dX9_comesIn_86 ?_
                refine xj_icmp_ne C (tgt := 96) dX9_comesIn_87 (by decide) ⟨g2, (by decide)⟩ (fun c27 => ?_) (fun c27 => ?_)
                · have hM := xif hM c27
                  refine xj_iload_n C 2 dX9_comesIn_96 rfl rfl ?_
                  refine xj_iconst C dX9_comesIn_97 ?_
                  refine xj_isub C dX9_comesIn_98 ?_
                  obtain rfl := Option.some.inj hM
                  refine xj_loc C [3, 4] (L1 := [(1, .int (xi p1)), (2, .int (xi p2))]) rfl ?_
                  exact Kr24
                · have hM := xit hM c27
                  refine xj_iload_n C 2 dX9_comesIn_90 rfl rfl ?_
                  refine xj_iconst C dX9_comesIn_91 ?_
                  refine xj_iadd C dX9_comesIn_92 ?_
                  refine xj_goto C (tgt := 99) dX9_comesIn_93 (by decide) ?_
                  obtain rfl := Option.some.inj hM
                  refine xj_loc C [3, 4] (L1 := [(1, .int (xi p1)), (2, .int (xi p2))]) rfl ?_
                  exact Kr24
              · have hM := xit hM c26
                refine xj_iload_n C 2 dX9_comesIn_79 rfl rfl ?_
                refine xj_iconst C dX9_comesIn_80 ?_
                refine xj_iadd C dX9_comesIn_81 ?_
                refine xj_goto C (tgt := 99) dX9_comesIn_82 (by decide) ?_
                obtain rfl := Option.some.inj hM
                refine xj_loc C [3, 4] (L1 := [(1, .int (xi p1)), (2, .int (xi p2))]) rfl ?_
                exact Kr24
            · have hM := xit hM c25
              refine xj_iload_n C 2 dX9_comesIn_68 rfl rfl ?_
              refine xj_iconst C dX9_comesIn_69 ?_
              refine xj_isub C dX9_comesIn_70 ?_
              refine xj_goto C (tgt := 99) dX9_comesIn_71 (by decide) ?_
              obtain rfl := Option.some.inj hM
              refine xj_loc C [3, 4] (L1 := [(1, .int (xi p1)), (2, .int (xi p2))]) rfl ?_
              exact Kr24
          · have hM := xit hM c23
            refine xj_iload_n C 1 dX9_comesIn_57 rfl rfl ?_
            refine xj_iconst C dX9_comesIn_58 ?_
            obtain ⟨g30, hM⟩ := xck_some hM
            refine xj_icmp_ne C (tgt := 64) dX9_comesIn_59 (by decide) ⟨g30, (by decide)⟩ (fun c31 => ?_) (fun c31 => ?_)
            · have hM := xif hM c31
              refine xj_iload_n C 3 dX9_comesIn_64 rfl rfl ?_
              obtain ⟨r32, hRr32, hM⟩ := xbd hM
              have Kr32 : xJ l D k (xo X D k (some (.int (xi res))) w) X 6 99 [(1, .int (xi p1)), (2, .int (xi p2))] [.int (xi r32)] w := by
                refine xj_istore C (L1 := [(5, .int (xi r32)), (1, .int (xi p1)), (2, .int (xi p2))]) dX9_comesIn_99 (by decide) rfl ?_
                refine xj_iload C 0 dX9_comesIn_101 rfl ?_
                refine xj_iload_n C 1 dX9_comesIn_103 rfl rfl ?_
                refine xj_iconst C dX9_comesIn_104 ?_
                refine xj_iadd C dX9_comesIn_105 ?_
                refine xj_iconst C dX9_comesIn_106 ?_
                obtain ⟨g36, hM⟩ := xck_some hM
                refine xj_irem C ⟨g36.1, g36.2, by decide, by decide⟩ dX9_comesIn_107 ?_
                refine xj_iload_n C 2 dX9_comesIn_108 rfl rfl ?_
                obtain ⟨r37, hRr37, hM⟩ := xbd hM
                refine xj_callS C [.int (xi r32), .int (xi ((p1 + 2) % 4)), .int (xi p2)] [] 3 (c_X9_channel hRr37) gX9_comesIn_X9_channel rfl ⟨rfl, rfl⟩ hv_X9_channel ⟨Nat.le_of_ble_eq_true rfl, Nat.le_of_ble_eq_true rfl⟩ rfl (Nat.le_of_ble_eq_true rfl) dX9_comesIn_109 ?_
                obtain rfl := Option.some.inj hM
                exact xj_iret C rfl dX9_comesIn_112
              clear hM
              have hM := hRr32
              refine xj_if_ne C (tgt := 74) dX9_comesIn_65 (by decide) g2 (fun c33 => ?_) (fun c33 => ?_)
              · have hM := xif hM c33
                refine xj_iload_n C 3 dX9_comesIn_74 rfl rfl ?_
                refine xj_iconst C dX9_comesIn_75 ?_
                refine xj_icmp_ne C (tgt := 85) dX9_comesIn_76 (by decide) ⟨g2, (by decide)⟩ (fun c34 => ?_) (fun c34 => ?_)
                · have hM := xif hM c34
                  refine xj_iload_n C 3 dX9_comesIn_85 rfl rfl ?_
                  refine xj_iconst C dX9_comesIn_86 ?_
                  refine xj_icmp_ne C (tgt := 96) dX9_comesIn_87 (by decide) ⟨g2, (by decide)⟩ (fun c35 => ?_) (fun c35 => ?_)
                  · have hM := xif hM c35
                    refine xj_iload_n C 2 dX9_comesIn_96 rfl rfl ?_
                    refine xj_iconst C dX9_comesIn_97 ?_
                    refine xj_isub C dX9_comesIn_98 ?_
                    obtain rfl := Option.some.inj hM
                    refine xj_loc C [3, 4] (L1 := [(1, .int (xi p1)), (2, .int (xi p2))]) rfl ?_
                    exact Kr32
                  · have hM := xit hM c35
                    refine xj_iload_n C 2 dX9_comesIn_90 rfl rfl ?_
                    refine xj_iconst C dX9_comesIn_91 ?_
                    refine xj_iadd C dX9_comesIn_92 ?_
                    refine xj_goto C (tgt := 99) dX9_comesIn_93 (by decide) ?_
                    obtain rfl := Option.some.inj hM
                    refine xj_loc C [3, 4] (L1 := [(1, .int (xi p1)), (2, .int (xi p2))]) rfl ?_
                    exact Kr32
                · have hM := xit hM c34
                  refine xj_iload_n C 2 dX9_comesIn_79 rfl rfl ?_
                  refine xj_iconst C dX9_comesIn_80 ?_
                  refine xj_iadd C dX9_comesIn_81 ?_
                  refine xj_goto C (tgt := 99) dX9_comesIn_82 (by decide) ?_
                  obtain rfl := Option.some.inj hM
                  refine xj_loc C [3, 4] (L1 := [(1, .int (xi p1)), (2, .int (xi p2))]) rfl ?_
                  exact Kr32
              · have hM := xit hM c33
                refine xj_iload_n C 2 dX9_comesIn_68 rfl rfl ?_
                refine xj_iconst C dX9_comesIn_69 ?_
                refine xj_isub C dX9_comesIn_70 ?_
                refine xj_goto C (tgt := 99) dX9_comesIn_71 (by decide) ?_
                obtain rfl := Option.some.inj hM
                refine xj_loc C [3, 4] (L1 := [(1, .int (xi p1)), (2, .int (xi p2))]) rfl ?_
                exact Kr32
            · have hM := xit hM c31
              refine xj_iconst C dX9_comesIn_62 ?_
              obtain rfl := Option.some.inj hM
              exact xj_iret C rfl dX9_comesIn_63
    · have hM := xit hM c4
      refine xj_iload_n C 1 dX9_comesIn_37 rfl rfl ?_
      obtain ⟨g38, hM⟩ := xck_some hM
      refine xj_if_eq C (tgt := 62) dX9_comesIn_38 (by decide) g38 (fun c39 => ?_) (fun c39 => ?_)
      · have hM := xit hM c39
        refine xj_iconst C dX9_comesIn_62 ?_
        obtain rfl := Option.some.inj hM
        exact xj_iret C rfl dX9_comesIn_63
      · have hM := xif hM c39
        refine xj_iload_n C 3 dX9_comesIn_41 rfl rfl ?_
        refine xj_iconst C dX9_comesIn_42 ?_
        refine xj_icmp_ne C (tgt := 52) dX9_comesIn_43 (by decide) ⟨g2, (by decide)⟩ (fun c40 => ?_) (fun c40 => ?_)
        · have hM := xif hM c40
          refine xj_iload_n C 3 dX9_comesIn_52 rfl rfl ?_
          refine xj_iconst C dX9_comesIn_53 ?_
          refine xj_icmp_ne C (tgt := 64) dX9_comesIn_54 (by decide) ⟨g2, (by decide)⟩ (fun c41 => ?_) (fun c41 => ?_)
          · have hM := xif hM c41
            refine xj_iload_n C 3 dX9_comesIn_64 rfl rfl ?_
            obtain ⟨r42, hRr42, hM⟩ := xbd hM
            have Kr42 : xJ l D k (xo X D k (some (.int (xi res))) w) X 6 99 [(1, .int (xi p1)), (2, .int (xi p2))] [.int (xi r42)] w := by
              refine xj_istore C (L1 := [(5, .int (xi r42)), (1, .int (xi p1)), (2, .int (xi p2))]) dX9_comesIn_99 (by decide) rfl ?_
              refine xj_iload C 0 dX9_comesIn_101 rfl ?_
              refine xj_iload_n C 1 dX9_comesIn_103 rfl rfl ?_
              refine xj_iconst C dX9_comesIn_104 ?_
              refine xj_iadd C dX9_comesIn_105 ?_
              refine xj_iconst C dX9_comesIn_106 ?_
              obtain ⟨g46, hM⟩ := xck_some hM
              refine xj_irem C ⟨g46.1, g46.2, by decide, by decide⟩ dX9_comesIn_107 ?_
              refine xj_iload_n C 2 dX9_comesIn_108 rfl rfl ?_
              obtain ⟨r47, hRr47, hM⟩ := xbd hM
              refine xj_callS C [.int (xi r42), .int (xi ((p1 + 2) % 4)), .int (xi p2)] [] 3 (c_X9_channel hRr47) gX9_comesIn_X9_channel rfl ⟨rfl, rfl⟩ hv_X9_channel ⟨Nat.le_of_ble_eq_true rfl, Nat.le_of_ble_eq_true rfl⟩ rfl (Nat.le_of_ble_eq_true rfl) dX9_comesIn_109 ?_
              obtain rfl := Option.some.inj hM
              exact xj_iret C rfl dX9_comesIn_112
            clear hM
            have hM := hRr42
            refine xj_if_ne C (tgt := 74) dX9_comesIn_65 (by decide) g2 (fun c43 => ?_) (fun c43 => ?_)
            · have hM := xif hM c43
              refine xj_iload_n C 3 dX9_comesIn_74 rfl rfl ?_
              refine xj_iconst C dX9_comesIn_75 ?_
              refine xj_icmp_ne C (tgt := 85) dX9_comesIn_76 (by decide) ⟨g2, (by decide)⟩ (fun c44 => ?_) (fun c44 => ?_)
              · have hM := xif hM c44
                refine xj_iload_n C 3 dX9_comesIn_85 rfl rfl ?_
                refine xj_iconst C dX9_comesIn_86 ?_
                refine xj_icmp_ne C (tgt := 96) dX9_comesIn_87 (by decide) ⟨g2, (by decide)⟩ (fun c45 => ?_) (fun c45 => ?_)
                · have hM := xif hM c45
                  refine xj_iload_n C 2 dX9_comesIn_96 rfl rfl ?_
                  refine xj_iconst C dX9_comesIn_97 ?_
                  refine xj_isub C dX9_comesIn_98 ?_
                  obtain rfl := Option.some.inj hM
                  refine xj_loc C [3, 4] (L1 := [(1, .int (xi p1)), (2, .int (xi p2))]) rfl ?_
                  exact Kr42
                · have hM := xit hM c45
                  refine xj_iload_n C 2 dX9_comesIn_90 rfl rfl ?_
                  refine xj_iconst C dX9_comesIn_91 ?_
                  refine xj_iadd C dX9_comesIn_92 ?_
                  refine xj_goto C (tgt := 99) dX9_comesIn_93 (by decide) ?_
                  obtain rfl := Option.some.inj hM
                  refine xj_loc C [3, 4] (L1 := [(1, .int (xi p1)), (2, .int (xi p2))]) rfl ?_
                  exact Kr42
              · have hM := xit hM c44
                refine xj_iload_n C 2 dX9_comesIn_79 rfl rfl ?_
                refine xj_iconst C dX9_comesIn_80 ?_
                refine xj_iadd C dX9_comesIn_81 ?_
                refine xj_goto C (tgt := 99) dX9_comesIn_82 (by decide) ?_
                obtain rfl := Option.some.inj hM
                refine xj_loc C [3, 4] (L1 := [(1, .int (xi p1)), (2, .int (xi p2))]) rfl ?_
                exact Kr42
            · have hM := xit hM c43
              refine xj_iload_n C 2 dX9_comesIn_68 rfl rfl ?_
              refine xj_iconst C dX9_comesIn_69 ?_
              refine xj_isub C dX9_comesIn_70 ?_
              refine xj_goto C (tgt := 99) dX9_comesIn_71 (by decide) ?_
              obtain rfl := Option.some.inj hM
              refine xj_loc C [3, 4] (L1 := [(1, .int (xi p1)), (2, .int (xi p2))]) rfl ?_
              exact Kr42
          · have hM := xit hM c41
            refine xj_iload_n C 1 dX9_comesIn_57 rfl rfl ?_
            refine xj_iconst C dX9_comesIn_58 ?_
            refine xj_icmp_ne C (tgt := 64) dX9_comesIn_59 (by decide) ⟨g38, (by decide)⟩ (fun c48 => ?_) (fun c48 => ?_)
            · have hM := xif hM c48
              refine xj_iload_n C 3 dX9_comesIn_64 rfl rfl ?_
              obtain ⟨r49, hRr49, hM⟩ := xbd hM
              have Kr49 : xJ l D k (xo X D k (some (.int (xi res))) w) X 6 99 [(1, .int (xi p1)), (2, .int (xi p2))] [.int (xi r49)] w := by
                refine xj_istore C (L1 := [(5, .int (xi r49)), (1, .int (xi p1)), (2, .int (xi p2))]) dX9_comesIn_99 (by decide) rfl ?_
                refine xj_iload C 0 dX9_comesIn_101 rfl ?_
                refine xj_iload_n C 1 dX9_comesIn_103 rfl rfl ?_
                refine xj_iconst C dX9_comesIn_104 ?_
                refine xj_iadd C dX9_comesIn_105 ?_
                refine xj_iconst C dX9_comesIn_106 ?_
                obtain ⟨g53, hM⟩ := xck_some hM
                refine xj_irem C ⟨g53.1, g53.2, by decide, by decide⟩ dX9_comesIn_107 ?_
                refine xj_iload_n C 2 dX9_comesIn_108 rfl rfl ?_
                obtain ⟨r54, hRr54, hM⟩ := xbd hM
                refine xj_callS C [.int (xi r49), .int (xi ((p1 + 2) % 4)), .int (xi p2)] [] 3 (c_X9_channel hRr54) gX9_comesIn_X9_channel rfl ⟨rfl, rfl⟩ hv_X9_channel ⟨Nat.le_of_ble_eq_true rfl, Nat.le_of_ble_eq_true rfl⟩ rfl (Nat.le_of_ble_eq_true rfl) dX9_comesIn_109 ?_
                obtain rfl := Option.some.inj hM
                exact xj_iret C rfl dX9_comesIn_112
              clear hM
              have hM := hRr49
              refine xj_if_ne C (tgt := 74) dX9_comesIn_65 (by decide) g2 (fun c50 => ?_) (fun c50 => ?_)
              · have hM := xif hM c50
                refine xj_iload_n C 3 dX9_comesIn_74 rfl rfl ?_
                refine xj_iconst C dX9_comesIn_75 ?_
                refine xj_icmp_ne C (tgt := 85) dX9_comesIn_76 (by decide) ⟨g2, (by decide)⟩ (fun c51 => ?_) (fun c51 => ?_)
                · have hM := xif hM c51
                  refine xj_iload_n C 3 dX9_comesIn_85 rfl rfl ?_
                  refine xj_iconst C dX9_comesIn_86 ?_
                  refine xj_icmp_ne C (tgt := 96) dX9_comesIn_87 (by decide) ⟨g2, (by decide)⟩ (fun c52 => ?_) (fun c52 => ?_)
                  · have hM := xif hM c52
                    refine xj_iload_n C 2 dX9_comesIn_96 rfl rfl ?_
                    refine xj_iconst C dX9_comesIn_97 ?_
                    refine xj_isub C dX9_comesIn_98 ?_
                    obtain rfl := Option.some.inj hM
                    refine xj_loc C [3, 4] (L1 := [(1, .int (xi p1)), (2, .int (xi p2))]) rfl ?_
                    exact Kr49
                  · have hM := xit hM c52
                    refine xj_iload_n C 2 dX9_comesIn_90 rfl rfl ?_
                    refine xj_iconst C dX9_comesIn_91 ?_
                    refine xj_iadd C dX9_comesIn_92 ?_
                    refine xj_goto C (tgt := 99) dX9_comesIn_93 (by decide) ?_
                    obtain rfl := Option.some.inj hM
                    refine xj_loc C [3, 4] (L1 := [(1, .int (xi p1)), (2, .int (xi p2))]) rfl ?_
                    exact Kr49
                · have hM := xit hM c51
                  refine xj_iload_n C 2 dX9_comesIn_79 rfl rfl ?_
                  refine xj_iconst C dX9_comesIn_80 ?_
                  refine xj_iadd C dX9_comesIn_81 ?_
                  refine xj_goto C (tgt := 99) dX9_comesIn_82 (by decide) ?_
                  obtain rfl := Option.some.inj hM
                  refine xj_loc C [3, 4] (L1 := [(1, .int (xi p1)), (2, .int (xi p2))]) rfl ?_
                  exact Kr49
              · have hM := xit hM c50
                refine xj_iload_n C 2 dX9_comesIn_68 rfl rfl ?_
                refine xj_iconst C dX9_comesIn_69 ?_
                refine xj_isub C dX9_comesIn_70 ?_
                refine xj_goto C (tgt := 99) dX9_comesIn_71 (by decide) ?_
                obtain rfl := Option.some.inj hM
                refine xj_loc C [3, 4] (L1 := [(1, .int (xi p1)), (2, .int (xi p2))]) rfl ?_
                exact Kr49
            · have hM := xit hM c48
              refine xj_iconst C dX9_comesIn_62 ?_
              obtain rfl := Option.some.inj hM
              exact xj_iret C rfl dX9_comesIn_63
        · have hM := xit hM c40
          refine xj_iload C 0 dX9_comesIn_46 rfl ?_
          refine xj_iconst C dX9_comesIn_48 ?_
          obtain ⟨g55, hM⟩ := xck_some hM
          refine xj_icmp_eq C (tgt := 62) dX9_comesIn_49 (by decide) ⟨g55, (by decide)⟩ (fun c56 => ?_) (fun c56 => ?_)
          · have hM := xit hM c56
            refine xj_iconst C dX9_comesIn_62 ?_
            obtain rfl := Option.some.inj hM
            exact xj_iret C rfl dX9_comesIn_63
          · have hM := xif hM c56
            refine xj_iload_n C 3 dX9_comesIn_52 rfl rfl ?_
            refine xj_iconst C dX9_comesIn_53 ?_
            refine xj_icmp_ne C (tgt := 64) dX9_comesIn_54 (by decide) ⟨g2, (by decide)⟩ (fun c57 => ?_) (fun c57 => ?_)
            · have hM := xif hM c57
              refine xj_iload_n C 3 dX9_comesIn_64 rfl rfl ?_
              obtain ⟨r58, hRr58, hM⟩ := xbd hM
              have Kr58 : xJ l D k (xo X D k (some (.int (xi res))) w) X 6 99 [(1, .int (xi p1)), (2, .int (xi p2))] [.int (xi r58)] w := by
                refine xj_istore C (L1 := [(5, .int (xi r58)), (1, .int (xi p1)), (2, .int (xi p2))]) dX9_comesIn_99 (by decide) rfl ?_
                refine xj_iload C 0 dX9_comesIn_101 rfl ?_
                refine xj_iload_n C 1 dX9_comesIn_103 rfl rfl ?_
                refine xj_iconst C dX9_comesIn_104 ?_
                refine xj_iadd C dX9_comesIn_105 ?_
                refine xj_iconst C dX9_comesIn_106 ?_
                obtain ⟨g62, hM⟩ := xck_some hM
                refine xj_irem C ⟨g62.1, g62.2, by decide, by decide⟩ dX9_comesIn_107 ?_
                refine xj_iload_n C 2 dX9_comesIn_108 rfl rfl ?_
                obtain ⟨r63, hRr63, hM⟩ := xbd hM
                refine xj_callS C [.int (xi r58), .int (xi ((p1 + 2) % 4)), .int (xi p2)] [] 3 (c_X9_channel hRr63) gX9_comesIn_X9_channel rfl ⟨rfl, rfl⟩ hv_X9_channel ⟨Nat.le_of_ble_eq_true rfl, Nat.le_of_ble_eq_true rfl⟩ rfl (Nat.le_of_ble_eq_true rfl) dX9_comesIn_109 ?_
                obtain rfl := Option.some.inj hM
                exact xj_iret C rfl dX9_comesIn_112
              clear hM
              have hM := hRr58
              refine xj_if_ne C (tgt := 74) dX9_comesIn_65 (by decide) g2 (fun c59 => ?_) (fun c59 => ?_)
              · have hM := xif hM c59
                refine xj_iload_n C 3 dX9_comesIn_74 rfl rfl ?_
                refine xj_iconst C dX9_comesIn_75 ?_
                refine xj_icmp_ne C (tgt := 85) dX9_comesIn_76 (by decide) ⟨g2, (by decide)⟩ (fun c60 => ?_) (fun c60 => ?_)
                · have hM := xif hM c60
                  refine xj_iload_n C 3 dX9_comesIn_85 rfl rfl ?_
                  refine xj_iconst C dX9_comesIn_86 ?_
                  refine xj_icmp_ne C (tgt := 96) dX9_comesIn_87 (by decide) ⟨g2, (by decide)⟩ (fun c61 => ?_) (fun c61 => ?_)
                  · have hM := xif hM c61
                    refine xj_iload_n C 2 dX9_comesIn_96 rfl rfl ?_
                    refine xj_iconst C dX9_comesIn_97 ?_
                    refine xj_isub C dX9_comesIn_98 ?_
                    obtain rfl := Option.some.inj hM
                    refine xj_loc C [3, 4] (L1 := [(1, .int (xi p1)), (2, .int (xi p2))]) rfl ?_
                    exact Kr58
                  · have hM := xit hM c61
                    refine xj_iload_n C 2 dX9_comesIn_90 rfl rfl ?_
                    refine xj_iconst C dX9_comesIn_91 ?_
                    refine xj_iadd C dX9_comesIn_92 ?_
                    refine xj_goto C (tgt := 99) dX9_comesIn_93 (by decide) ?_
                    obtain rfl := Option.some.inj hM
                    refine xj_loc C [3, 4] (L1 := [(1, .int (xi p1)), (2, .int (xi p2))]) rfl ?_
                    exact Kr58
                · have hM := xit hM c60
                  refine xj_iload_n C 2 dX9_comesIn_79 rfl rfl ?_
                  refine xj_iconst C dX9_comesIn_80 ?_
                  refine xj_iadd C dX9_comesIn_81 ?_
                  refine xj_goto C (tgt := 99) dX9_comesIn_82 (by decide) ?_
                  obtain rfl := Option.some.inj hM
                  refine xj_loc C [3, 4] (L1 := [(1, .int (xi p1)), (2, .int (xi p2))]) rfl ?_
                  exact Kr58
              · have hM := xit hM c59
                refine xj_iload_n C 2 dX9_comesIn_68 rfl rfl ?_
                refine xj_iconst C dX9_comesIn_69 ?_
                refine xj_isub C dX9_comesIn_70 ?_
                refine xj_goto C (tgt := 99) dX9_comesIn_71 (by decide) ?_
                obtain rfl := Option.some.inj hM
                refine xj_loc C [3, 4] (L1 := [(1, .int (xi p1)), (2, .int (xi p2))]) rfl ?_
                exact Kr58
            · have hM := xit hM c57
              refine xj_iload_n C 1 dX9_comesIn_57 rfl rfl ?_
              refine xj_iconst C dX9_comesIn_58 ?_
              refine xj_icmp_ne C (tgt := 64) dX9_comesIn_59 (by decide) ⟨g38, (by decide)⟩ (fun c64 => ?_) (fun c64 => ?_)
              · have hM := xif hM c64
                refine xj_iload_n C 3 dX9_comesIn_64 rfl rfl ?_
                obtain ⟨r65, hRr65, hM⟩ := xbd hM
                have Kr65 : xJ l D k (xo X D k (some (.int (xi res))) w) X 6 99 [(1, .int (xi p1)), (2, .int (xi p2))] [.int (xi r65)] w := by
                  refine xj_istore C (L1 := [(5, .int (xi r65)), (1, .int (xi p1)), (2, .int (xi p2))]) dX9_comesIn_99 (by decide) rfl ?_
                  refine xj_iload C 0 dX9_comesIn_101 rfl ?_
                  refine xj_iload_n C 1 dX9_comesIn_103 rfl rfl ?_
                  refine xj_iconst C dX9_comesIn_104 ?_
                  refine xj_iadd C dX9_comesIn_105 ?_
                  refine xj_iconst C dX9_comesIn_106 ?_
                  obtain ⟨g69, hM⟩ := xck_some hM
                  refine xj_irem C ⟨g69.1, g69.2, by decide, by decide⟩ dX9_comesIn_107 ?_
                  refine xj_iload_n C 2 dX9_comesIn_108 rfl rfl ?_
                  obtain ⟨r70, hRr70, hM⟩ := xbd hM
                  refine xj_callS C [.int (xi r65), .int (xi ((p1 + 2) % 4)), .int (xi p2)] [] 3 (c_X9_channel hRr70) gX9_comesIn_X9_channel rfl ⟨rfl, rfl⟩ hv_X9_channel ⟨Nat.le_of_ble_eq_true rfl, Nat.le_of_ble_eq_true rfl⟩ rfl (Nat.le_of_ble_eq_true rfl) dX9_comesIn_109 ?_
                  obtain rfl := Option.some.inj hM
                  exact xj_iret C rfl dX9_comesIn_112
                clear hM
                have hM := hRr65
                refine xj_if_ne C (tgt := 74) dX9_comesIn_65 (by decide) g2 (fun c66 => ?_) (fun c66 => ?_)
                · have hM := xif hM c66
                  refine xj_iload_n C 3 dX9_comesIn_74 rfl rfl ?_
                  refine xj_iconst C dX9_comesIn_75 ?_
                  refine xj_icmp_ne C (tgt := 85) dX9_comesIn_76 (by decide) ⟨g2, (by decide)⟩ (fun c67 => ?_) (fun c67 => ?_)
                  · have hM := xif hM c67
                    refine xj_iload_n C 3 dX9_comesIn_85 rfl rfl ?_
                    refine xj_iconst C dX9_comesIn_86 ?_
                    refine xj_icmp_ne C (tgt := 96) dX9_comesIn_87 (by decide) ⟨g2, (by decide)⟩ (fun c68 => ?_) (fun c68 => ?_)
                    · have hM := xif hM c68
                      refine xj_iload_n C 2 dX9_comesIn_96 rfl rfl ?_
                      refine xj_iconst C dX9_comesIn_97 ?_
                      refine xj_isub C dX9_comesIn_98 ?_
                      obtain rfl := Option.some.inj hM
                      refine xj_loc C [3, 4] (L1 := [(1, .int (xi p1)), (2, .int (xi p2))]) rfl ?_
                      exact Kr65
                    · have hM := xit hM c68
                      refine xj_iload_n C 2 dX9_comesIn_90 rfl rfl ?_
                      refine xj_iconst C dX9_comesIn_91 ?_
                      refine xj_iadd C dX9_comesIn_92 ?_
                      refine xj_goto C (tgt := 99) dX9_comesIn_93 (by decide) ?_
                      obtain rfl := Option.some.inj hM
                      refine xj_loc C [3, 4] (L1 := [(1, .int (xi p1)), (2, .int (xi p2))]) rfl ?_
                      exact Kr65
                  · have hM := xit hM c67
                    refine xj_iload_n C 2 dX9_comesIn_79 rfl rfl ?_
                    refine xj_iconst C dX9_comesIn_80 ?_
                    refine xj_iadd C dX9_comesIn_81 ?_
                    refine xj_goto C (tgt := 99) dX9_comesIn_82 (by decide) ?_
                    obtain rfl := Option.some.inj hM
                    refine xj_loc C [3, 4] (L1 := [(1, .int (xi p1)), (2, .int (xi p2))]) rfl ?_
                    exact Kr65
                · have hM := xit hM c66
                  refine xj_iload_n C 2 dX9_comesIn_68 rfl rfl ?_
                  refine xj_iconst C dX9_comesIn_69 ?_
                  refine xj_isub C dX9_comesIn_70 ?_
                  refine xj_goto C (tgt := 99) dX9_comesIn_71 (by decide) ?_
                  obtain rfl := Option.some.inj hM
                  refine xj_loc C [3, 4] (L1 := [(1, .int (xi p1)), (2, .int (xi p2))]) rfl ?_
                  exact Kr65
              · have hM := xit hM c64
                refine xj_iconst C dX9_comesIn_62 ?_
                obtain rfl := Option.some.inj hM
                exact xj_iret C rfl dX9_comesIn_63
  · have hM := xit hM c3
    refine xj_iload C 0 dX9_comesIn_14 rfl ?_
    obtain ⟨g71, hM⟩ := xck_some hM
    refine xj_if_ne C (tgt := 33) dX9_comesIn_16 (by decide) g71 (fun c72 => ?_) (fun c72 => ?_)
    · have hM := xif hM c72
      refine xj_iload_n C 3 dX9_comesIn_33 rfl rfl ?_
      refine xj_if_ne C (tgt := 41) dX9_comesIn_34 (by decide) g2 (fun c73 => ?_) (fun c73 => ?_)
      · have hM := xif hM c73
        refine xj_iload_n C 3 dX9_comesIn_41 rfl rfl ?_
        refine xj_iconst C dX9_comesIn_42 ?_
        refine xj_icmp_ne C (tgt := 52) dX9_comesIn_43 (by decide) ⟨g2, (by decide)⟩ (fun c74 => ?_) (fun c74 => ?_)
        · have hM := xif hM c74
          refine xj_iload_n C 3 dX9_comesIn_52 rfl rfl ?_
          refine xj_iconst C dX9_comesIn_53 ?_
          refine xj_icmp_ne C (tgt := 64) dX9_comesIn_54 (by decide) ⟨g2, (by decide)⟩ (fun c75 => ?_) (fun c75 => ?_)
          · have hM := xif hM c75
            refine xj_iload_n C 3 dX9_comesIn_64 rfl rfl ?_
            obtain ⟨r76, hRr76, hM⟩ := xbd hM
            have Kr76 : xJ l D k (xo X D k (some (.int (xi res))) w) X 6 99 [(1, .int (xi p1)), (2, .int (xi p2))] [.int (xi r76)] w := by
              refine xj_istore C (L1 := [(5, .int (xi r76)), (1, .int (xi p1)), (2, .int (xi p2))]) dX9_comesIn_99 (by decide) rfl ?_
              refine xj_iload C 0 dX9_comesIn_101 rfl ?_
              refine xj_iload_n C 1 dX9_comesIn_103 rfl rfl ?_
              refine xj_iconst C dX9_comesIn_104 ?_
              refine xj_iadd C dX9_comesIn_105 ?_
              refine xj_iconst C dX9_comesIn_106 ?_
              obtain ⟨g80, hM⟩ := xck_some hM
              refine xj_irem C ⟨g80.1, g80.2, by decide, by decide⟩ dX9_comesIn_107 ?_
              refine xj_iload_n C 2 dX9_comesIn_108 rfl rfl ?_
              obtain ⟨r81, hRr81, hM⟩ := xbd hM
              refine xj_callS C [.int (xi r76), .int (xi ((p1 + 2) % 4)), .int (xi p2)] [] 3 (c_X9_channel hRr81) gX9_comesIn_X9_channel rfl ⟨rfl, rfl⟩ hv_X9_channel ⟨Nat.le_of_ble_eq_true rfl, Nat.le_of_ble_eq_true rfl⟩ rfl (Nat.le_of_ble_eq_true rfl) dX9_comesIn_109 ?_
              obtain rfl := Option.some.inj hM
              exact xj_iret C rfl dX9_comesIn_112
            clear hM
            have hM := hRr76
            refine xj_if_ne C (tgt := 74) dX9_comesIn_65 (by decide) g2 (fun c77 => ?_) (fun c77 => ?_)
            · have hM := xif hM c77
              refine xj_iload_n C 3 dX9_comesIn_74 rfl rfl ?_
              refine xj_iconst C dX9_comesIn_75 ?_
              refine xj_icmp_ne C (tgt := 85) dX9_comesIn_76 (by decide) ⟨g2, (by decide)⟩ (fun c78 => ?_) (fun c78 => ?_)
              · have hM := xif hM c78
                refine xj_iload_n C 3 dX9_comesIn_85 rfl rfl ?_
                refine xj_iconst C dX9_comesIn_86 ?_
                refine xj_icmp_ne C (tgt := 96) dX9_comesIn_87 (by decide) ⟨g2, (by decide)⟩ (fun c79 => ?_) (fun c79 => ?_)
                · have hM := xif hM c79
                  refine xj_iload_n C 2 dX9_comesIn_96 rfl rfl ?_
                  refine xj_iconst C dX9_comesIn_97 ?_
                  refine xj_isub C dX9_comesIn_98 ?_
                  obtain rfl := Option.some.inj hM
                  refine xj_loc C [3, 4] (L1 := [(1, .int (xi p1)), (2, .int (xi p2))]) rfl ?_
                  exact Kr76
                · have hM := xit hM c79
                  refine xj_iload_n C 2 dX9_comesIn_90 rfl rfl ?_
                  refine xj_iconst C dX9_comesIn_91 ?_
                  refine xj_iadd C dX9_comesIn_92 ?_
                  refine xj_goto C (tgt := 99) dX9_comesIn_93 (by decide) ?_
                  obtain rfl := Option.some.inj hM
                  refine xj_loc C [3, 4] (L1 := [(1, .int (xi p1)), (2, .int (xi p2))]) rfl ?_
                  exact Kr76
              · have hM := xit hM c78
                refine xj_iload_n C 2 dX9_comesIn_79 rfl rfl ?_
                refine xj_iconst C dX9_comesIn_80 ?_
                refine xj_iadd C dX9_comesIn_81 ?_
                refine xj_goto C (tgt := 99) dX9_comesIn_82 (by decide) ?_
                obtain rfl := Option.some.inj hM
                refine xj_loc C [3, 4] (L1 := [(1, .int (xi p1)), (2, .int (xi p2))]) rfl ?_
                exact Kr76
            · have hM := xit hM c77
              refine xj_iload_n C 2 dX9_comesIn_68 rfl rfl ?_
              refine xj_iconst C dX9_comesIn_69 ?_
              refine xj_isub C dX9_comesIn_70 ?_
              refine xj_goto C (tgt := 99) dX9_comesIn_71 (by decide) ?_
              obtain rfl := Option.some.inj hM
              refine xj_loc C [3, 4] (L1 := [(1, .int (xi p1)), (2, .int (xi p2))]) rfl ?_
              exact Kr76
          · have hM := xit hM c75
            refine xj_iload_n C 1 dX9_comesIn_57 rfl rfl ?_
            refine xj_iconst C dX9_comesIn_58 ?_
            obtain ⟨g82, hM⟩ := xck_some hM
            refine xj_icmp_ne C (tgt := 64) dX9_comesIn_59 (by decide) ⟨g82, (by decide)⟩ (fun c83 => ?_) (fun c83 => ?_)
            · have hM := xif hM c83
              refine xj_iload_n C 3 dX9_comesIn_64 rfl rfl ?_
              obtain ⟨r84, hRr84, hM⟩ := xbd hM
              have Kr84 : xJ l D k (xo X D k (some (.int (xi res))) w) X 6 99 [(1, .int (xi p1)), (2, .int (xi p2))] [.int (xi r84)] w := by
                refine xj_istore C (L1 := [(5, .int (xi r84)), (1, .int (xi p1)), (2, .int (xi p2))]) dX9_comesIn_99 (by decide) rfl ?_
                refine xj_iload C 0 dX9_comesIn_101 rfl ?_
                refine xj_iload_n C 1 dX9_comesIn_103 rfl rfl ?_
                refine xj_iconst C dX9_comesIn_104 ?_
                refine xj_iadd C dX9_comesIn_105 ?_
                refine xj_iconst C dX9_comesIn_106 ?_
                obtain ⟨g88, hM⟩ := xck_some hM
                refine xj_irem C ⟨g88.1, g88.2, by decide, by decide⟩ dX9_comesIn_107 ?_
                refine xj_iload_n C 2 dX9_comesIn_108 rfl rfl ?_
                obtain ⟨r89, hRr89, hM⟩ := xbd hM
                refine xj_callS C [.int (xi r84), .int (xi ((p1 + 2) % 4)), .int (xi p2)] [] 3 (c_X9_channel hRr89) gX9_comesIn_X9_channel rfl ⟨rfl, rfl⟩ hv_X9_channel ⟨Nat.le_of_ble_eq_true rfl, Nat.le_of_ble_eq_true rfl⟩ rfl (Nat.le_of_ble_eq_true rfl) dX9_comesIn_109 ?_
                obtain rfl := Option.some.inj hM
                exact xj_iret C rfl dX9_comesIn_112
              clear hM
              have hM := hRr84
              refine xj_if_ne C (tgt := 74) dX9_comesIn_65 (by decide) g2 (fun c85 => ?_) (fun c85 => ?_)
              · have hM := xif hM c85
                refine xj_iload_n C 3 dX9_comesIn_74 rfl rfl ?_
                refine xj_iconst C dX9_comesIn_75 ?_
                refine xj_icmp_ne C (tgt := 85) dX9_comesIn_76 (by decide) ⟨g2, (by decide)⟩ (fun c86 => ?_) (fun c86 => ?_)
                · have hM := xif hM c86
                  refine xj_iload_n C 3 dX9_comesIn_85 rfl rfl ?_
                  refine xj_iconst C dX9_comesIn_86 ?_
                  refine xj_icmp_ne C (tgt := 96) dX9_comesIn_87 (by decide) ⟨g2, (by decide)⟩ (fun c87 => ?_) (fun c87 => ?_)
                  · have hM := xif hM c87
                    refine xj_iload_n C 2 dX9_comesIn_96 rfl rfl ?_
                    refine xj_iconst C dX9_comesIn_97 ?_
                    refine xj_isub C dX9_comesIn_98 ?_
                    obtain rfl := Option.some.inj hM
                    refine xj_loc C [3, 4] (L1 := [(1, .int (xi p1)), (2, .int (xi p2))]) rfl ?_
                    exact Kr84
                  · have hM := xit hM c87
                    refine xj_iload_n C 2 dX9_comesIn_90 rfl rfl ?_
                    refine xj_iconst C dX9_comesIn_91 ?_
                    refine xj_iadd C dX9_comesIn_92 ?_
                    refine xj_goto C (tgt := 99) dX9_comesIn_93 (by decide) ?_
                    obtain rfl := Option.some.inj hM
                    refine xj_loc C [3, 4] (L1 := [(1, .int (xi p1)), (2, .int (xi p2))]) rfl ?_
                    exact Kr84
                · have hM := xit hM c86
                  refine xj_iload_n C 2 dX9_comesIn_79 rfl rfl ?_
                  refine xj_iconst C dX9_comesIn_80 ?_
                  refine xj_iadd C dX9_comesIn_81 ?_
                  refine xj_goto C (tgt := 99) dX9_comesIn_82 (by decide) ?_
                  obtain rfl := Option.some.inj hM
                  refine xj_loc C [3, 4] (L1 := [(1, .int (xi p1)), (2, .int (xi p2))]) rfl ?_
                  exact Kr84
              · have hM := xit hM c85
                refine xj_iload_n C 2 dX9_comesIn_68 rfl rfl ?_
                refine xj_iconst C dX9_comesIn_69 ?_
                refine xj_isub C dX9_comesIn_70 ?_
                refine xj_goto C (tgt := 99) dX9_comesIn_71 (by decide) ?_
                obtain rfl := Option.some.inj hM
                refine xj_loc C [3, 4] (L1 := [(1, .int (xi p1)), (2, .int (xi p2))]) rfl ?_
                exact Kr84
            · have hM := xit hM c83
              refine xj_iconst C dX9_comesIn_62 ?_
              obtain rfl := Option.some.inj hM
              exact xj_iret C rfl dX9_comesIn_63
        · have hM := xit hM c74
          refine xj_iload C 0 dX9_comesIn_46 rfl ?_
          refine xj_iconst C dX9_comesIn_48 ?_
          refine xj_icmp_eq C (tgt := 62) dX9_comesIn_49 (by decide) ⟨g71, (by decide)⟩ (fun c90 => ?_) (fun c90 => ?_)
          · have hM := xit hM c90
            refine xj_iconst C dX9_comesIn_62 ?_
            obtain rfl := Option.some.inj hM
            exact xj_iret C rfl dX9_comesIn_63
          · have hM := xif hM c90
            refine xj_iload_n C 3 dX9_comesIn_52 rfl rfl ?_
            refine xj_iconst C dX9_comesIn_53 ?_
            refine xj_icmp_ne C (tgt := 64) dX9_comesIn_54 (by decide) ⟨g2, (by decide)⟩ (fun c91 => ?_) (fun c91 => ?_)
            · have hM := xif hM c91
              refine xj_iload_n C 3 dX9_comesIn_64 rfl rfl ?_
              obtain ⟨r92, hRr92, hM⟩ := xbd hM
              have Kr92 : xJ l D k (xo X D k (some (.int (xi res))) w) X 6 99 [(1, .int (xi p1)), (2, .int (xi p2))] [.int (xi r92)] w := by
                refine xj_istore C (L1 := [(5, .int (xi r92)), (1, .int (xi p1)), (2, .int (xi p2))]) dX9_comesIn_99 (by decide) rfl ?_
                refine xj_iload C 0 dX9_comesIn_101 rfl ?_
                refine xj_iload_n C 1 dX9_comesIn_103 rfl rfl ?_
                refine xj_iconst C dX9_comesIn_104 ?_
                refine xj_iadd C dX9_comesIn_105 ?_
                refine xj_iconst C dX9_comesIn_106 ?_
                obtain ⟨g96, hM⟩ := xck_some hM
                refine xj_irem C ⟨g96.1, g96.2, by decide, by decide⟩ dX9_comesIn_107 ?_
                refine xj_iload_n C 2 dX9_comesIn_108 rfl rfl ?_
                obtain ⟨r97, hRr97, hM⟩ := xbd hM
                refine xj_callS C [.int (xi r92), .int (xi ((p1 + 2) % 4)), .int (xi p2)] [] 3 (c_X9_channel hRr97) gX9_comesIn_X9_channel rfl ⟨rfl, rfl⟩ hv_X9_channel ⟨Nat.le_of_ble_eq_true rfl, Nat.le_of_ble_eq_true rfl⟩ rfl (Nat.le_of_ble_eq_true rfl) dX9_comesIn_109 ?_
                obtain rfl := Option.some.inj hM
                exact xj_iret C rfl dX9_comesIn_112
              clear hM
              have hM := hRr92
              refine xj_if_ne C (tgt := 74) dX9_comesIn_65 (by decide) g2 (fun c93 => ?_) (fun c93 => ?_)
              · have hM := xif hM c93
                refine xj_iload_n C 3 dX9_comesIn_74 rfl rfl ?_
                refine xj_iconst C dX9_comesIn_75 ?_
                refine xj_icmp_ne C (tgt := 85) dX9_comesIn_76 (by decide) ⟨g2, (by decide)⟩ (fun c94 => ?_) (fun c94 => ?_)
                · have hM := xif hM c94
                  refine xj_iload_n C 3 dX9_comesIn_85 rfl rfl ?_
                  refine xj_iconst C dX9_comesIn_86 ?_
                  refine xj_icmp_ne C (tgt := 96) dX9_comesIn_87 (by decide) ⟨g2, (by decide)⟩ (fun c95 => ?_) (fun c95 => ?_)
                  · have hM := xif hM c95
                    refine xj_iload_n C 2 dX9_comesIn_96 rfl rfl ?_
                    refine xj_iconst C dX9_comesIn_97 ?_
                    refine xj_isub C dX9_comesIn_98 ?_
                    obtain rfl := Option.some.inj hM
                    refine xj_loc C [3, 4] (L1 := [(1, .int (xi p1)), (2, .int (xi p2))]) rfl ?_
                    exact Kr92
                  · have hM := xit hM c95
                    refine xj_iload_n C 2 dX9_comesIn_90 rfl rfl ?_
                    refine xj_iconst C dX9_comesIn_91 ?_
                    refine xj_iadd C dX9_comesIn_92 ?_
                    refine xj_goto C (tgt := 99) dX9_comesIn_93 (by decide) ?_
                    obtain rfl := Option.some.inj hM
                    refine xj_loc C [3, 4] (L1 := [(1, .int (xi p1)), (2, .int (xi p2))]) rfl ?_
                    exact Kr92
                · have hM := xit hM c94
                  refine xj_iload_n C 2 dX9_comesIn_79 rfl rfl ?_
                  refine xj_iconst C dX9_comesIn_80 ?_
                  refine xj_iadd C dX9_comesIn_81 ?_
                  refine xj_goto C (tgt := 99) dX9_comesIn_82 (by decide) ?_
                  obtain rfl := Option.some.inj hM
                  refine xj_loc C [3, 4] (L1 := [(1, .int (xi p1)), (2, .int (xi p2))]) rfl ?_
                  exact Kr92
              · have hM := xit hM c93
                refine xj_iload_n C 2 dX9_comesIn_68 rfl rfl ?_
                refine xj_iconst C dX9_comesIn_69 ?_
                refine xj_isub C dX9_comesIn_70 ?_
                refine xj_goto C (tgt := 99) dX9_comesIn_71 (by decide) ?_
                obtain rfl := Option.some.inj hM
                refine xj_loc C [3, 4] (L1 := [(1, .int (xi p1)), (2, .int (xi p2))]) rfl ?_
                exact Kr92
            · have hM := xit hM c91
              refine xj_iload_n C 1 dX9_comesIn_57 rfl rfl ?_
              refine xj_iconst C dX9_comesIn_58 ?_
              obtain ⟨g98, hM⟩ := xck_some hM
              refine xj_icmp_ne C (tgt := 64) dX9_comesIn_59 (by decide) ⟨g98, (by decide)⟩ (fun c99 => ?_) (fun c99 => ?_)
              · have hM := xif hM c99
                refine xj_iload_n C 3 dX9_comesIn_64 rfl rfl ?_
                obtain ⟨r100, hRr100, hM⟩ := xbd hM
                have Kr100 : xJ l D k (xo X D k (some (.int (xi res))) w) X 6 99 [(1, .int (xi p1)), (2, .int (xi p2))] [.int (xi r100)] w := by
                  refine xj_istore C (L1 := [(5, .int (xi r100)), (1, .int (xi p1)), (2, .int (xi p2))]) dX9_comesIn_99 (by decide) rfl ?_
                  refine xj_iload C 0 dX9_comesIn_101 rfl ?_
                  refine xj_iload_n C 1 dX9_comesIn_103 rfl rfl ?_
                  refine xj_iconst C dX9_comesIn_104 ?_
                  refine xj_iadd C dX9_comesIn_105 ?_
                  refine xj_iconst C dX9_comesIn_106 ?_
                  obtain ⟨g104, hM⟩ := xck_some hM
                  refine xj_irem C ⟨g104.1, g104.2, by decide, by decide⟩ dX9_comesIn_107 ?_
                  refine xj_iload_n C 2 dX9_comesIn_108 rfl rfl ?_
                  obtain ⟨r105, hRr105, hM⟩ := xbd hM
                  refine xj_callS C [.int (xi r100), .int (xi ((p1 + 2) % 4)), .int (xi p2)] [] 3 (c_X9_channel hRr105) gX9_comesIn_X9_channel rfl ⟨rfl, rfl⟩ hv_X9_channel ⟨Nat.le_of_ble_eq_true rfl, Nat.le_of_ble_eq_true rfl⟩ rfl (Nat.le_of_ble_eq_true rfl) dX9_comesIn_109 ?_
                  obtain rfl := Option.some.inj hM
                  exact xj_iret C rfl dX9_comesIn_112
                clear hM
                have hM := hRr100
                refine xj_if_ne C (tgt := 74) dX9_comesIn_65 (by decide) g2 (fun c101 => ?_) (fun c101 => ?_)
                · have hM := xif hM c101
                  refine xj_iload_n C 3 dX9_comesIn_74 rfl rfl ?_
                  refine xj_iconst C dX9_comesIn_75 ?_
                  refine xj_icmp_ne C (tgt := 85) dX9_comesIn_76 (by decide) ⟨g2, (by decide)⟩ (fun c102 => ?_) (fun c102 => ?_)
                  · have hM := xif hM c102
                    refine xj_iload_n C 3 dX9_comesIn_85 rfl rfl ?_
                    refine xj_iconst C dX9_comesIn_86 ?_
                    refine xj_icmp_ne C (tgt := 96) dX9_comesIn_87 (by decide) ⟨g2, (by decide)⟩ (fun c103 => ?_) (fun c103 => ?_)
                    · have hM := xif hM c103
                      refine xj_iload_n C 2 dX9_comesIn_96 rfl rfl ?_
                      refine xj_iconst C dX9_comesIn_97 ?_
                      refine xj_isub C dX9_comesIn_98 ?_
                      obtain rfl := Option.some.inj hM
                      refine xj_loc C [3, 4] (L1 := [(1, .int (xi p1)), (2, .int (xi p2))]) rfl ?_
                      exact Kr100
                    · have hM := xit hM c103
                      refine xj_iload_n C 2 dX9_comesIn_90 rfl rfl ?_
                      refine xj_iconst C dX9_comesIn_91 ?_
                      refine xj_iadd C dX9_comesIn_92 ?_
                      refine xj_goto C (tgt := 99) dX9_comesIn_93 (by decide) ?_
                      obtain rfl := Option.some.inj hM
                      refine xj_loc C [3, 4] (L1 := [(1, .int (xi p1)), (2, .int (xi p2))]) rfl ?_
                      exact Kr100
                  · have hM := xit hM c102
                    refine xj_iload_n C 2 dX9_comesIn_79 rfl rfl ?_
                    refine xj_iconst C dX9_comesIn_80 ?_
                    refine xj_iadd C dX9_comesIn_81 ?_
                    refine xj_goto C (tgt := 99) dX9_comesIn_82 (by decide) ?_
                    obtain rfl := Option.some.inj hM
                    refine xj_loc C [3, 4] (L1 := [(1, .int (xi p1)), (2, .int (xi p2))]) rfl ?_
                    exact Kr100
                · have hM := xit hM c101
                  refine xj_iload_n C 2 dX9_comesIn_68 rfl rfl ?_
                  refine xj_iconst C dX9_comesIn_69 ?_
                  refine xj_isub C dX9_comesIn_70 ?_
                  refine xj_goto C (tgt := 99) dX9_comesIn_71 (by decide) ?_
                  obtain rfl := Option.some.inj hM
                  refine xj_loc C [3, 4] (L1 := [(1, .int (xi p1)), (2, .int (xi p2))]) rfl ?_
                  exact Kr100
              · have hM := xit hM c99
                refine xj_iconst C dX9_comesIn_62 ?_
                obtain rfl := Option.some.inj hM
                exact xj_iret C rfl dX9_comesIn_63
      · have hM := xit hM c73
        refine xj_iload_n C 1 dX9_comesIn_37 rfl rfl ?_
        obtain ⟨g106, hM⟩ := xck_some hM
        refine xj_if_eq C (tgt := 62) dX9_comesIn_38 (by decide) g106 (fun c107 => ?_) (fun c107 => ?_)
        · have hM := xit hM c107
          refine xj_iconst C dX9_comesIn_62 ?_
          obtain rfl := Option.some.inj hM
          exact xj_iret C rfl dX9_comesIn_63
        · have hM := xif hM c107
          refine xj_iload_n C 3 dX9_comesIn_41 rfl rfl ?_
          refine xj_iconst C dX9_comesIn_42 ?_
          refine xj_icmp_ne C (tgt := 52) dX9_comesIn_43 (by decide) ⟨g2, (by decide)⟩ (fun c108 => ?_) (fun c108 => ?_)
          · have hM := xif hM c108
            refine xj_iload_n C 3 dX9_comesIn_52 rfl rfl ?_
            refine xj_iconst C dX9_comesIn_53 ?_
            refine xj_icmp_ne C (tgt := 64) dX9_comesIn_54 (by decide) ⟨g2, (by decide)⟩ (fun c109 => ?_) (fun c109 => ?_)
            · have hM := xif hM c109
              refine xj_iload_n C 3 dX9_comesIn_64 rfl rfl ?_
              obtain ⟨r110, hRr110, hM⟩ := xbd hM
              have Kr110 : xJ l D k (xo X D k (some (.int (xi res))) w) X 6 99 [(1, .int (xi p1)), (2, .int (xi p2))] [.int (xi r110)] w := by
                refine xj_istore C (L1 := [(5, .int (xi r110)), (1, .int (xi p1)), (2, .int (xi p2))]) dX9_comesIn_99 (by decide) rfl ?_
                refine xj_iload C 0 dX9_comesIn_101 rfl ?_
                refine xj_iload_n C 1 dX9_comesIn_103 rfl rfl ?_
                refine xj_iconst C dX9_comesIn_104 ?_
                refine xj_iadd C dX9_comesIn_105 ?_
                refine xj_iconst C dX9_comesIn_106 ?_
                obtain ⟨g114, hM⟩ := xck_some hM
                refine xj_irem C ⟨g114.1, g114.2, by decide, by decide⟩ dX9_comesIn_107 ?_
                refine xj_iload_n C 2 dX9_comesIn_108 rfl rfl ?_
                obtain ⟨r115, hRr115, hM⟩ := xbd hM
                refine xj_callS C [.int (xi r110), .int (xi ((p1 + 2) % 4)), .int (xi p2)] [] 3 (c_X9_channel hRr115) gX9_comesIn_X9_channel rfl ⟨rfl, rfl⟩ hv_X9_channel ⟨Nat.le_of_ble_eq_true rfl, Nat.le_of_ble_eq_true rfl⟩ rfl (Nat.le_of_ble_eq_true rfl) dX9_comesIn_109 ?_
                obtain rfl := Option.some.inj hM
                exact xj_iret C rfl dX9_comesIn_112
              clear hM
              have hM := hRr110
              refine xj_if_ne C (tgt := 74) dX9_comesIn_65 (by decide) g2 (fun c111 => ?_) (fun c111 => ?_)
              · have hM := xif hM c111
                refine xj_iload_n C 3 dX9_comesIn_74 rfl rfl ?_
                refine xj_iconst C dX9_comesIn_75 ?_
                refine xj_icmp_ne C (tgt := 85) dX9_comesIn_76 (by decide) ⟨g2, (by decide)⟩ (fun c112 => ?_) (fun c112 => ?_)
                · have hM := xif hM c112
                  refine xj_iload_n C 3 dX9_comesIn_85 rfl rfl ?_
                  refine xj_iconst C dX9_comesIn_86 ?_
                  refine xj_icmp_ne C (tgt := 96) dX9_comesIn_87 (by decide) ⟨g2, (by decide)⟩ (fun c113 => ?_) (fun c113 => ?_)
                  · have hM := xif hM c113
                    refine xj_iload_n C 2 dX9_comesIn_96 rfl rfl ?_
                    refine xj_iconst C dX9_comesIn_97 ?_
                    refine xj_isub C dX9_comesIn_98 ?_
                    obtain rfl := Option.some.inj hM
                    refine xj_loc C [3, 4] (L1 := [(1, .int (xi p1)), (2, .int (xi p2))]) rfl ?_
                    exact Kr110
                  · have hM := xit hM c113
                    refine xj_iload_n C 2 dX9_comesIn_90 rfl rfl ?_
                    refine xj_iconst C dX9_comesIn_91 ?_
                    refine xj_iadd C dX9_comesIn_92 ?_
                    refine xj_goto C (tgt := 99) dX9_comesIn_93 (by decide) ?_
                    obtain rfl := Option.some.inj hM
                    refine xj_loc C [3, 4] (L1 := [(1, .int (xi p1)), (2, .int (xi p2))]) rfl ?_
                    exact Kr110
                · have hM := xit hM c112
                  refine xj_iload_n C 2 dX9_comesIn_79 rfl rfl ?_
                  refine xj_iconst C dX9_comesIn_80 ?_
                  refine xj_iadd C dX9_comesIn_81 ?_
                  refine xj_goto C (tgt := 99) dX9_comesIn_82 (by decide) ?_
                  obtain rfl := Option.some.inj hM
                  refine xj_loc C [3, 4] (L1 := [(1, .int (xi p1)), (2, .int (xi p2))]) rfl ?_
                  exact Kr110
              · have hM := xit hM c111
                refine xj_iload_n C 2 dX9_comesIn_68 rfl rfl ?_
                refine xj_iconst C dX9_comesIn_69 ?_
                refine xj_isub C dX9_comesIn_70 ?_
                refine xj_goto C (tgt := 99) dX9_comesIn_71 (by decide) ?_
                obtain rfl := Option.some.inj hM
                refine xj_loc C [3, 4] (L1 := [(1, .int (xi p1)), (2, .int (xi p2))]) rfl ?_
                exact Kr110
            · have hM := xit hM c109
              refine xj_iload_n C 1 dX9_comesIn_57 rfl rfl ?_
              refine xj_iconst C dX9_comesIn_58 ?_
              refine xj_icmp_ne C (tgt := 64) dX9_comesIn_59 (by decide) ⟨g106, (by decide)⟩ (fun c116 => ?_) (fun c116 => ?_)
              · have hM := xif hM c116
                refine xj_iload_n C 3 dX9_comesIn_64 rfl rfl ?_
                obtain ⟨r117, hRr117, hM⟩ := xbd hM
                have Kr117 : xJ l D k (xo X D k (some (.int (xi res))) w) X 6 99 [(1, .int (xi p1)), (2, .int (xi p2))] [.int (xi r117)] w := by
                  refine xj_istore C (L1 := [(5, .int (xi r117)), (1, .int (xi p1)), (2, .int (xi p2))]) dX9_comesIn_99 (by decide) rfl ?_
                  refine xj_iload C 0 dX9_comesIn_101 rfl ?_
                  refine xj_iload_n C 1 dX9_comesIn_103 rfl rfl ?_
                  refine xj_iconst C dX9_comesIn_104 ?_
                  refine xj_iadd C dX9_comesIn_105 ?_
                  refine xj_iconst C dX9_comesIn_106 ?_
                  obtain ⟨g121, hM⟩ := xck_some hM
                  refine xj_irem C ⟨g121.1, g121.2, by decide, by decide⟩ dX9_comesIn_107 ?_
                  refine xj_iload_n C 2 dX9_comesIn_108 rfl rfl ?_
                  obtain ⟨r122, hRr122, hM⟩ := xbd hM
                  refine xj_callS C [.int (xi r117), .int (xi ((p1 + 2) % 4)), .int (xi p2)] [] 3 (c_X9_channel hRr122) gX9_comesIn_X9_channel rfl ⟨rfl, rfl⟩ hv_X9_channel ⟨Nat.le_of_ble_eq_true rfl, Nat.le_of_ble_eq_true rfl⟩ rfl (Nat.le_of_ble_eq_true rfl) dX9_comesIn_109 ?_
                  obtain rfl := Option.some.inj hM
                  exact xj_iret C rfl dX9_comesIn_112
                clear hM
                have hM := hRr117
                refine xj_if_ne C (tgt := 74) dX9_comesIn_65 (by decide) g2 (fun c118 => ?_) (fun c118 => ?_)
                · have hM := xif hM c118
                  refine xj_iload_n C 3 dX9_comesIn_74 rfl rfl ?_
                  refine xj_iconst C dX9_comesIn_75 ?_
                  refine xj_icmp_ne C (tgt := 85) dX9_comesIn_76 (by decide) ⟨g2, (by decide)⟩ (fun c119 => ?_) (fun c119 => ?_)
                  · have hM := xif hM c119
                    refine xj_iload_n C 3 dX9_comesIn_85 rfl rfl ?_
                    refine xj_iconst C dX9_comesIn_86 ?_
                    refine xj_icmp_ne C (tgt := 96) dX9_comesIn_87 (by decide) ⟨g2, (by decide)⟩ (fun c120 => ?_) (fun c120 => ?_)
                    · have hM := xif hM c120
                      refine xj_iload_n C 2 dX9_comesIn_96 rfl rfl ?_
                      refine xj_iconst C dX9_comesIn_97 ?_
                      refine xj_isub C dX9_comesIn_98 ?_
                      obtain rfl := Option.some.inj hM
                      refine xj_loc C [3, 4] (L1 := [(1, .int (xi p1)), (2, .int (xi p2))]) rfl ?_
                      exact Kr117
                    · have hM := xit hM c120
                      refine xj_iload_n C 2 dX9_comesIn_90 rfl rfl ?_
                      refine xj_iconst C dX9_comesIn_91 ?_
                      refine xj_iadd C dX9_comesIn_92 ?_
                      refine xj_goto C (tgt := 99) dX9_comesIn_93 (by decide) ?_
                      obtain rfl := Option.some.inj hM
                      refine xj_loc C [3, 4] (L1 := [(1, .int (xi p1)), (2, .int (xi p2))]) rfl ?_
                      exact Kr117
                  · have hM := xit hM c119
                    refine xj_iload_n C 2 dX9_comesIn_79 rfl rfl ?_
                    refine xj_iconst C dX9_comesIn_80 ?_
                    refine xj_iadd C dX9_comesIn_81 ?_
                    refine xj_goto C (tgt := 99) dX9_comesIn_82 (by decide) ?_
                    obtain rfl := Option.some.inj hM
                    refine xj_loc C [3, 4] (L1 := [(1, .int (xi p1)), (2, .int (xi p2))]) rfl ?_
                    exact Kr117
                · have hM := xit hM c118
                  refine xj_iload_n C 2 dX9_comesIn_68 rfl rfl ?_
                  refine xj_iconst C dX9_comesIn_69 ?_
                  refine xj_isub C dX9_comesIn_70 ?_
                  refine xj_goto C (tgt := 99) dX9_comesIn_71 (by decide) ?_
                  obtain rfl := Option.some.inj hM
                  refine xj_loc C [3, 4] (L1 := [(1, .int (xi p1)), (2, .int (xi p2))]) rfl ?_
                  exact Kr117
              · have hM := xit hM c116
                refine xj_iconst C dX9_comesIn_62 ?_
                obtain rfl := Option.some.inj hM
                exact xj_iret C rfl dX9_comesIn_63
          · have hM := xit hM c108
            refine xj_iload C 0 dX9_comesIn_46 rfl ?_
            refine xj_iconst C dX9_comesIn_48 ?_
            refine xj_icmp_eq C (tgt := 62) dX9_comesIn_49 (by decide) ⟨g71, (by decide)⟩ (fun c123 => ?_) (fun c123 => ?_)
            · have hM := xit hM c123
              refine xj_iconst C dX9_comesIn_62 ?_
              obtain rfl := Option.some.inj hM
              exact xj_iret C rfl dX9_comesIn_63
            · have hM := xif hM c123
              refine xj_iload_n C 3 dX9_comesIn_52 rfl rfl ?_
              refine xj_iconst C dX9_comesIn_53 ?_
              refine xj_icmp_ne C (tgt := 64) dX9_comesIn_54 (by decide) ⟨g2, (by decide)⟩ (fun c124 => ?_) (fun c124 => ?_)
              · have hM := xif hM c124
                refine xj_iload_n C 3 dX9_comesIn_64 rfl rfl ?_
                obtain ⟨r125, hRr125, hM⟩ := xbd hM
                have Kr125 : xJ l D k (xo X D k (some (.int (xi res))) w) X 6 99 [(1, .int (xi p1)), (2, .int (xi p2))] [.int (xi r125)] w := by
                  refine xj_istore C (L1 := [(5, .int (xi r125)), (1, .int (xi p1)), (2, .int (xi p2))]) dX9_comesIn_99 (by decide) rfl ?_
                  refine xj_iload C 0 dX9_comesIn_101 rfl ?_
                  refine xj_iload_n C 1 dX9_comesIn_103 rfl rfl ?_
                  refine xj_iconst C dX9_comesIn_104 ?_
                  refine xj_iadd C dX9_comesIn_105 ?_
                  refine xj_iconst C dX9_comesIn_106 ?_
                  obtain ⟨g129, hM⟩ := xck_some hM
                  refine xj_irem C ⟨g129.1, g129.2, by decide, by decide⟩ dX9_comesIn_107 ?_
                  refine xj_iload_n C 2 dX9_comesIn_108 rfl rfl ?_
                  obtain ⟨r130, hRr130, hM⟩ := xbd hM
                  refine xj_callS C [.int (xi r125), .int (xi ((p1 + 2) % 4)), .int (xi p2)] [] 3 (c_X9_channel hRr130) gX9_comesIn_X9_channel rfl ⟨rfl, rfl⟩ hv_X9_channel ⟨Nat.le_of_ble_eq_true rfl, Nat.le_of_ble_eq_true rfl⟩ rfl (Nat.le_of_ble_eq_true rfl) dX9_comesIn_109 ?_
                  obtain rfl := Option.some.inj hM
                  exact xj_iret C rfl dX9_comesIn_112
                clear hM
                have hM := hRr125
                refine xj_if_ne C (tgt := 74) dX9_comesIn_65 (by decide) g2 (fun c126 => ?_) (fun c126 => ?_)
                · have hM := xif hM c126
                  refine xj_iload_n C 3 dX9_comesIn_74 rfl rfl ?_
                  refine xj_iconst C dX9_comesIn_75 ?_
                  refine xj_icmp_ne C (tgt := 85) dX9_comesIn_76 (by decide) ⟨g2, (by decide)⟩ (fun c127 => ?_) (fun c127 => ?_)
                  · have hM := xif hM c127
                    refine xj_iload_n C 3 dX9_comesIn_85 rfl rfl ?_
                    refine xj_iconst C dX9_comesIn_86 ?_
                    refine xj_icmp_ne C (tgt := 96) dX9_comesIn_87 (by decide) ⟨g2, (by decide)⟩ (fun c128 => ?_) (fun c128 => ?_)
                    · have hM := xif hM c128
                      refine xj_iload_n C 2 dX9_comesIn_96 rfl rfl ?_
                      refine xj_iconst C dX9_comesIn_97 ?_
                      refine xj_isub C dX9_comesIn_98 ?_
                      obtain rfl := Option.some.inj hM
                      refine xj_loc C [3, 4] (L1 := [(1, .int (xi p1)), (2, .int (xi p2))]) rfl ?_
                      exact Kr125
                    · have hM := xit hM c128
                      refine xj_iload_n C 2 dX9_comesIn_90 rfl rfl ?_
                      refine xj_iconst C dX9_comesIn_91 ?_
                      refine xj_iadd C dX9_comesIn_92 ?_
                      refine xj_goto C (tgt := 99) dX9_comesIn_93 (by decide) ?_
                      obtain rfl := Option.some.inj hM
                      refine xj_loc C [3, 4] (L1 := [(1, .int (xi p1)), (2, .int (xi p2))]) rfl ?_
                      exact Kr125
                  · have hM := xit hM c127
                    refine xj_iload_n C 2 dX9_comesIn_79 rfl rfl ?_
                    refine xj_iconst C dX9_comesIn_80 ?_
                    refine xj_iadd C dX9_comesIn_81 ?_
                    refine xj_goto C (tgt := 99) dX9_comesIn_82 (by decide) ?_
                    obtain rfl := Option.some.inj hM
                    refine xj_loc C [3, 4] (L1 := [(1, .int (xi p1)), (2, .int (xi p2))]) rfl ?_
                    exact Kr125
                · have hM := xit hM c126
                  refine xj_iload_n C 2 dX9_comesIn_68 rfl rfl ?_
                  refine xj_iconst C dX9_comesIn_69 ?_
                  refine xj_isub C dX9_comesIn_70 ?_
                  refine xj_goto C (tgt := 99) dX9_comesIn_71 (by decide) ?_
                  obtain rfl := Option.some.inj hM
                  refine xj_loc C [3, 4] (L1 := [(1, .int (xi p1)), (2, .int (xi p2))]) rfl ?_
                  exact Kr125
              · have hM := xit hM c124
                refine xj_iload_n C 1 dX9_comesIn_57 rfl rfl ?_
                refine xj_iconst C dX9_comesIn_58 ?_
                refine xj_icmp_ne C (tgt := 64) dX9_comesIn_59 (by decide) ⟨g106, (by decide)⟩ (fun c131 => ?_) (fun c131 => ?_)
                · have hM := xif hM c131
                  refine xj_iload_n C 3 dX9_comesIn_64 rfl rfl ?_
                  obtain ⟨r132, hRr132, hM⟩ := xbd hM
                  have Kr132 : xJ l D k (xo X D k (some (.int (xi res))) w) X 6 99 [(1, .int (xi p1)), (2, .int (xi p2))] [.int (xi r132)] w := by
                    refine xj_istore C (L1 := [(5, .int (xi r132)), (1, .int (xi p1)), (2, .int (xi p2))]) dX9_comesIn_99 (by decide) rfl ?_
                    refine xj_iload C 0 dX9_comesIn_101 rfl ?_
                    refine xj_iload_n C 1 dX9_comesIn_103 rfl rfl ?_
                    refine xj_iconst C dX9_comesIn_104 ?_
                    refine xj_iadd C dX9_comesIn_105 ?_
                    refine xj_iconst C dX9_comesIn_106 ?_
                    obtain ⟨g136, hM⟩ := xck_some hM
                    refine xj_irem C ⟨g136.1, g136.2, by decide, by decide⟩ dX9_comesIn_107 ?_
                    refine xj_iload_n C 2 dX9_comesIn_108 rfl rfl ?_
                    obtain ⟨r137, hRr137, hM⟩ := xbd hM
                    refine xj_callS C [.int (xi r132), .int (xi ((p1 + 2) % 4)), .int (xi p2)] [] 3 (c_X9_channel hRr137) gX9_comesIn_X9_channel rfl ⟨rfl, rfl⟩ hv_X9_channel ⟨Nat.le_of_ble_eq_true rfl, Nat.le_of_ble_eq_true rfl⟩ rfl (Nat.le_of_ble_eq_true rfl) dX9_comesIn_109 ?_
                    obtain rfl := Option.some.inj hM
                    exact xj_iret C rfl dX9_comesIn_112
                  clear hM
                  have hM := hRr132
                  refine xj_if_ne C (tgt := 74) dX9_comesIn_65 (by decide) g2 (fun c133 => ?_) (fun c133 => ?_)
                  · have hM := xif hM c133
                    refine xj_iload_n C 3 dX9_comesIn_74 rfl rfl ?_
                    refine xj_iconst C dX9_comesIn_75 ?_
                    refine xj_icmp_ne C (tgt := 85) dX9_comesIn_76 (by decide) ⟨g2, (by decide)⟩ (fun c134 => ?_) (fun c134 => ?_)
                    · have hM := xif hM c134
                      refine xj_iload_n C 3 dX9_comesIn_85 rfl rfl ?_
                      refine xj_iconst C dX9_comesIn_86 ?_
                      refine xj_icmp_ne C (tgt := 96) dX9_comesIn_87 (by decide) ⟨g2, (by decide)⟩ (fun c135 => ?_) (fun c135 => ?_)
                      · have hM := xif hM c135
                        refine xj_iload_n C 2 dX9_comesIn_96 rfl rfl ?_
                        refine xj_iconst C dX9_comesIn_97 ?_
                        refine xj_isub C dX9_comesIn_98 ?_
                        obtain rfl := Option.some.inj hM
                        refine xj_loc C [3, 4] (L1 := [(1, .int (xi p1)), (2, .int (xi p2))]) rfl ?_
                        exact Kr132
                      · have hM := xit hM c135
                        refine xj_iload_n C 2 dX9_comesIn_90 rfl rfl ?_
                        refine xj_iconst C dX9_comesIn_91 ?_
                        refine xj_iadd C dX9_comesIn_92 ?_
                        refine xj_goto C (tgt := 99) dX9_comesIn_93 (by decide) ?_
                        obtain rfl := Option.some.inj hM
                        refine xj_loc C [3, 4] (L1 := [(1, .int (xi p1)), (2, .int (xi p2))]) rfl ?_
                        exact Kr132
                    · have hM := xit hM c134
                      refine xj_iload_n C 2 dX9_comesIn_79 rfl rfl ?_
                      refine xj_iconst C dX9_comesIn_80 ?_
                      refine xj_iadd C dX9_comesIn_81 ?_
                      refine xj_goto C (tgt := 99) dX9_comesIn_82 (by decide) ?_
                      obtain rfl := Option.some.inj hM
                      refine xj_loc C [3, 4] (L1 := [(1, .int (xi p1)), (2, .int (xi p2))]) rfl ?_
                      exact Kr132
                  · have hM := xit hM c133
                    refine xj_iload_n C 2 dX9_comesIn_68 rfl rfl ?_
                    refine xj_iconst C dX9_comesIn_69 ?_
                    refine xj_isub C dX9_comesIn_70 ?_
                    refine xj_goto C (tgt := 99) dX9_comesIn_71 (by decide) ?_
                    obtain rfl := Option.some.inj hM
                    refine xj_loc C [3, 4] (L1 := [(1, .int (xi p1)), (2, .int (xi p2))]) rfl ?_
                    exact Kr132
                · have hM := xit hM c131
                  refine xj_iconst C dX9_comesIn_62 ?_
                  obtain rfl := Option.some.inj hM
                  exact xj_iret C rfl dX9_comesIn_63
    · have hM := xit hM c72
      refine xj_iload_n C 4 dX9_comesIn_19 rfl rfl ?_
      obtain ⟨g138, hM⟩ := xck_some hM
      refine xj_if_ne C (tgt := 31) dX9_comesIn_20 (by decide) g138 (fun c139 => ?_) (fun c139 => ?_)
      · have hM := xif hM c139
        refine xj_iconst C dX9_comesIn_31 ?_
        obtain rfl := Option.some.inj hM
        exact xj_iret C rfl dX9_comesIn_32
      · have hM := xit hM c139
        refine xj_sipush C (n := 144) (by decide) dX9_comesIn_23 ?_
        refine xj_iload_n C 1 dX9_comesIn_26 rfl rfl ?_
        refine xj_iadd C dX9_comesIn_27 ?_
        refine xj_goto C (tgt := 32) dX9_comesIn_28 (by decide) ?_
        obtain rfl := Option.some.inj hM
        exact xj_iret C rfl dX9_comesIn_32
def rmX9_behindChannel : Room := { frames := 2, cells := 0, slots := 0, locals := 47 }
theorem hv_X9_behindChannel : yX9_behindChannel.cls ≠ "java/lang/invoke/MethodHandle" ∧ yX9_behindChannel.cls ≠ "java/lang/invoke/VarHandle" ∧ (parseMethodDescriptor yX9_behindChannel.desc).map (fun d => d.parameters.length) = some 2 := by decide +kernel
def m_X9_behindChannel (p0 : Int) (p1 : Int) : Option (Int) := xck (0 ≤ p0 ∧ p0 ≤ 2147483647) (xck (0 ≤ (p0 % 8) ∧ (p0 % 8) ≤ 2147483647) (xck (xr p1) (if p1 = 0 then some (-1) else (if p1 = 1 then some (9 * (p0 / 8)) else xck (0 ≤ ((((p0 % 8) / 2) + p1) - 1) ∧ ((((p0 % 8) / 2) + p1) - 1) ≤ 2147483647) ((m_X9_comesIn (p0 / 8) (((((p0 % 8) / 2) + p1) - 1) % 4) (p0 % 2)).bind (fun r7 => some r7))))))
set_option maxRecDepth 100000 in
set_option maxHeartbeats 4000000 in
theorem c_X9_behindChannel {l : Launch} {D : va_G} {k : Nat → ClassId} {w : va_W} {p0 : Int} {p1 : Int} {res : Int} (hM : m_X9_behindChannel p0 p1 = some res) : xM l yX9_behindChannel wsX9_behindChannel rmX9_behindChannel D k [.int (xi p0), .int (xi p1)] w (some (.int (xi res))) w := by
  refine xM_of (ret := (some .int)) (by decide) rfl (Nat.le_of_ble_eq_true rfl) (fun X C => ?_)
  have C : xC D k (xo X D k (some (.int (xi res))) w) X cX9_behindChannel 4 RX9 wsX9_behindChannel (some .int) rmX9_behindChannel := C
  show xJ l D k (xo X D k (some (.int (xi res))) w) X 4 0 [(0, .int (xi p0)), (1, .int (xi p1))] [] w
  unfold m_X9_behindChannel at hM
  refine xj_iload_n C 0 dX9_behindChannel_0 rfl rfl ?_
  refine xj_bipush C (n := 8) (by decide) dX9_behindChannel_1 ?_
  obtain ⟨g1, hM⟩ := xck_some hM
  refine xj_idiv C ⟨g1.1, g1.2, by decide, by decide⟩ dX9_behindChannel_3 ?_
  refine xj_istore_n C (L1 := [(2, .int (xi (p0 / 8))), (0, .int (xi p0)), (1, .int (xi p1))]) dX9_behindChannel_4 rfl (by decide) rfl ?_
  refine xj_iload_n C 1 dX9_behindChannel_5 rfl rfl ?_
  refine xj_bipush C (n := 8) (by decide) dX9_behindChannel_6 ?_
  refine xj_irem C ⟨g1.1, g1.2, by decide, by decide⟩ dX9_behindChannel_8 ?_
  refine xj_iconst C dX9_behindChannel_9 ?_
  obtain ⟨g2, hM⟩ := xck_some hM
  refine xj_idiv C ⟨g2.1, g2.2, by decide, by decide⟩ dX9_behindChannel_10 ?_
  refine xj_istore_n C (L1 := [(3, .int (xi ((p0 % 8) / 2))), (2, .int (xi (p0 / 8))), (0, .int (xi p0)), (1, .int (xi p1))]) dX9_behindChannel_11 rfl (by decide) rfl ?_
  refine xj_iload_n C 3 dX9_behindChannel_12 rfl rfl ?_
  obtain ⟨g3, hM⟩ := xck_some hM
  refine xj_if_ne C (tgt := 20) dX9_behindChannel_13 (by decide) g3 (fun c4 => ?_) (fun c4 => ?_)
  · have hM := xif hM c4
    refine xj_iload_n C 3 dX9_behindChannel_20 rfl rfl ?_
    refine xj_iconst C dX9_behindChannel_21 ?_
    refine xj_icmp_ne C (tgt := 32) dX9_behindChannel_22 (by decide) ⟨g3, (by decide)⟩ (fun c5 => ?_) (fun c5 => ?_)
    · have hM := xif hM c5
      refine xj_iload_n C 1 dX9_behindChannel_32 rfl rfl ?_
      refine xj_iload_n C 0 dX9_behindChannel_33 rfl rfl ?_
      refine xj_iload_n C 3 dX9_behindChannel_34 rfl rfl ?_
      refine xj_iadd C dX9_behindChannel_35 ?_
      refine xj_iconst C dX9_behindChannel_36 ?_
      refine xj_isub C dX9_behindChannel_37 ?_
      refine xj_iconst C dX9_behindChannel_38 ?_
      obtain ⟨g6, hM⟩ := xck_some hM
      refine xj_irem C ⟨g6.1, g6.2, by decide, by decide⟩ dX9_behindChannel_39 ?_
      refine xj_iload_n C 2 dX9_behindChannel_40 rfl rfl ?_
      refine xj_iconst C dX9_behindChannel_41 ?_
      refine xj_irem C ⟨g1.1, g1.2, by decide, by decide⟩ dX9_behindChannel_42 ?_
      obtain ⟨r7, hRr7, hM⟩ := xbd hM
      refine xj_callS C [.int (xi (p0 / 8)), .int (xi (((((p0 % 8) / 2) + p1) - 1) % 4)), .int (xi (p0 % 2))] [] 3 (c_X9_comesIn hRr7) gX9_behindChannel_X9_comesIn rfl ⟨rfl, rfl⟩ hv_X9_comesIn ⟨Nat.le_of_ble_eq_true rfl, Nat.le_of_ble_eq_true rfl⟩ rfl (Nat.le_of_ble_eq_true rfl) dX9_behindChannel_43 ?_
      obtain rfl := Option.some.inj hM
      exact xj_iret C rfl dX9_behindChannel_46
    · have hM := xit hM c5
      refine xj_bipush C (n := 9) (by decide) dX9_behindChannel_25 ?_
      refine xj_iload_n C 1 dX9_behindChannel_27 rfl rfl ?_
      refine xj_imul C dX9_behindChannel_28 ?_
      refine xj_goto C (tgt := 46) dX9_behindChannel_29 (by decide) ?_
      obtain rfl := Option.some.inj hM
      exact xj_iret C rfl dX9_behindChannel_46
  · have hM := xit hM c4
    refine xj_iconst C dX9_behindChannel_16 ?_
    refine xj_goto C (tgt := 46) dX9_behindChannel_17 (by decide) ?_
    obtain rfl := Option.some.inj hM
    exact xj_iret C rfl dX9_behindChannel_46
def rmX9_behindPin : Room := { frames := 2, cells := 0, slots := 0, locals := 47 }
theorem hv_X9_behindPin : yX9_behindPin.cls ≠ "java/lang/invoke/MethodHandle" ∧ yX9_behindPin.cls ≠ "java/lang/invoke/VarHandle" ∧ (parseMethodDescriptor yX9_behindPin.desc).map (fun d => d.parameters.length) = some 2 := by decide +kernel
def m_X9_behindPin (p0 : Int) (p1 : Int) : Option (Int) := xck (0 ≤ p0 ∧ p0 ≤ 2147483647) (xck (xr p1) (if p1 = 0 then some (-1) else (if p1 = 1 then some (9 * (p0 / 3)) else xck (0 ≤ (p1 - 2) ∧ (p1 - 2) ≤ 2147483647) (xck (0 ≤ p1 ∧ p1 ≤ 2147483647) ((m_X9_comesIn (p0 / 3) ((p1 - 2) / 2) (p1 % 2)).bind (fun r7 => some r7))))))
set_option maxRecDepth 100000 in
set_option maxHeartbeats 4000000 in
theorem c_X9_behindPin {l : Launch} {D : va_G} {k : Nat → ClassId} {w : va_W} {p0 : Int} {p1 : Int} {res : Int} (hM : m_X9_behindPin p0 p1 = some res) : xM l yX9_behindPin wsX9_behindPin rmX9_behindPin D k [.int (xi p0), .int (xi p1)] w (some (.int (xi res))) w := by
  refine xM_of (ret := (some .int)) (by decide) rfl (Nat.le_of_ble_eq_true rfl) (fun X C => ?_)
  have C : xC D k (xo X D k (some (.int (xi res))) w) X cX9_behindPin 3 RX9 wsX9_behindPin (some .int) rmX9_behindPin := C
  show xJ l D k (xo X D k (some (.int (xi res))) w) X 3 0 [(0, .int (xi p0)), (1, .int (xi p1))] [] w
  unfold m_X9_behindPin at hM
  refine xj_iload_n C 0 dX9_behindPin_0 rfl rfl ?_
  refine xj_iconst C dX9_behindPin_1 ?_
  obtain ⟨g1, hM⟩ := xck_some hM
  refine xj_idiv C ⟨g1.1, g1.2, by decide, by decide⟩ dX9_behindPin_2 ?_
  refine xj_istore_n C (L1 := [(2, .int (xi (p0 / 3))), (0, .int (xi p0)), (1, .int (xi p1))]) dX9_behindPin_3 rfl (by decide) rfl ?_
  refine xj_iload_n C 2 dX9_behindPin_4 rfl rfl ?_
  obtain ⟨g2, hM⟩ := xck_some hM
  refine xj_if_ne C (tgt := 12) dX9_behindPin_5 (by decide) g2 (fun c3 => ?_) (fun c3 => ?_)
  · have hM := xif hM c3
    refine xj_iload_n C 2 dX9_behindPin_12 rfl rfl ?_
    refine xj_iconst C dX9_behindPin_13 ?_
    refine xj_icmp_ne C (tgt := 24) dX9_behindPin_14 (by decide) ⟨g2, (by decide)⟩ (fun c4 => ?_) (fun c4 => ?_)
    · have hM := xif hM c4
      refine xj_iload_n C 0 dX9_behindPin_24 rfl rfl ?_
      refine xj_iload_n C 2 dX9_behindPin_25 rfl rfl ?_
      refine xj_iconst C dX9_behindPin_26 ?_
      refine xj_isub C dX9_behindPin_27 ?_
      refine xj_iconst C dX9_behindPin_28 ?_
      obtain ⟨g5, hM⟩ := xck_some hM
      refine xj_idiv C ⟨g5.1, g5.2, by decide, by decide⟩ dX9_behindPin_29 ?_
      refine xj_iload_n C 2 dX9_behindPin_30 rfl rfl ?_
      refine xj_iconst C dX9_behindPin_31 ?_
      obtain ⟨g6, hM⟩ := xck_some hM
      refine xj_irem C ⟨g6.1, g6.2, by decide, by decide⟩ dX9_behindPin_32 ?_
      obtain ⟨r7, hRr7, hM⟩ := xbd hM
      refine xj_callS C [.int (xi (p0 / 3)), .int (xi ((p1 - 2) / 2)), .int (xi (p1 % 2))] [] 3 (c_X9_comesIn hRr7) gX9_behindPin_X9_comesIn rfl ⟨rfl, rfl⟩ hv_X9_comesIn ⟨Nat.le_of_ble_eq_true rfl, Nat.le_of_ble_eq_true rfl⟩ rfl (Nat.le_of_ble_eq_true rfl) dX9_behindPin_33 ?_
      obtain rfl := Option.some.inj hM
      exact xj_iret C rfl dX9_behindPin_36
    · have hM := xit hM c4
      refine xj_bipush C (n := 9) (by decide) dX9_behindPin_17 ?_
      refine xj_iload_n C 0 dX9_behindPin_19 rfl rfl ?_
      refine xj_imul C dX9_behindPin_20 ?_
      refine xj_goto C (tgt := 36) dX9_behindPin_21 (by decide) ?_
      obtain rfl := Option.some.inj hM
      exact xj_iret C rfl dX9_behindPin_36
  · have hM := xit hM c3
    refine xj_iconst C dX9_behindPin_8 ?_
    refine xj_goto C (tgt := 36) dX9_behindPin_9 (by decide) ?_
    obtain rfl := Option.some.inj hM
    exact xj_iret C rfl dX9_behindPin_36
def rmX9_wireOf : Room := { frames := 0, cells := 0, slots := 0, locals := 0 }
theorem hv_X9_wireOf : yX9_wireOf.cls ≠ "java/lang/invoke/MethodHandle" ∧ yX9_wireOf.cls ≠ "java/lang/invoke/VarHandle" ∧ (parseMethodDescriptor yX9_wireOf.desc).map (fun d => d.parameters.length) = some 1 := by decide +kernel
def m_X9_wireOf (p0 : Int) : Option (Int) := xck (0 ≤ p0 ∧ p0 ≤ 2147483647) (some (((9 * (p0 / 8)) + 1) + (p0 % 8)))
set_option maxRecDepth 100000 in
set_option maxHeartbeats 4000000 in
theorem c_X9_wireOf {l : Launch} {D : va_G} {k : Nat → ClassId} {w : va_W} {p0 : Int} {res : Int} (hM : m_X9_wireOf p0 = some res) : xM l yX9_wireOf wsX9_wireOf rmX9_wireOf D k [.int (xi p0)] w (some (.int (xi res))) w := by
  refine xM_of (ret := (some .int)) (by decide) rfl (Nat.le_of_ble_eq_true rfl) (fun X C => ?_)
  have C : xC D k (xo X D k (some (.int (xi res))) w) X cX9_wireOf 1 RX9 wsX9_wireOf (some .int) rmX9_wireOf := C
  show xJ l D k (xo X D k (some (.int (xi res))) w) X 1 0 [(0, .int (xi p0))] [] w
  unfold m_X9_wireOf at hM
  refine xj_bipush C (n := 9) (by decide) dX9_wireOf_0 ?_
  refine xj_iload_n C 0 dX9_wireOf_2 rfl rfl ?_
  refine xj_bipush C (n := 8) (by decide) dX9_wireOf_3 ?_
  obtain ⟨g1, hM⟩ := xck_some hM
  refine xj_idiv C ⟨g1.1, g1.2, by decide, by decide⟩ dX9_wireOf_5 ?_
  refine xj_imul C dX9_wireOf_6 ?_
  refine xj_iconst C dX9_wireOf_7 ?_
  refine xj_iadd C dX9_wireOf_8 ?_
  refine xj_iload_n C 0 dX9_wireOf_9 rfl rfl ?_
  refine xj_bipush C (n := 8) (by decide) dX9_wireOf_10 ?_
  refine xj_irem C ⟨g1.1, g1.2, by decide, by decide⟩ dX9_wireOf_12 ?_
  refine xj_iadd C dX9_wireOf_13 ?_
  obtain rfl := Option.some.inj hM
  exact xj_iret C rfl dX9_wireOf_14
def rmX9_channelOf : Room := { frames := 0, cells := 0, slots := 0, locals := 0 }
theorem hv_X9_channelOf : yX9_channelOf.cls ≠ "java/lang/invoke/MethodHandle" ∧ yX9_channelOf.cls ≠ "java/lang/invoke/VarHandle" ∧ (parseMethodDescriptor yX9_channelOf.desc).map (fun d => d.parameters.length) = some 1 := by decide +kernel
def m_X9_channelOf (p0 : Int) : Option (Int) := xck (xr p0) (if 144 ≤ p0 then some (-1) else xck (0 ≤ p0 ∧ p0 ≤ 2147483647) (xck (xr (p0 % 9)) (if (p0 % 9) = 0 then some (-1) else some (((8 * (p0 / 9)) + (p0 % 9)) - 1))))
set_option maxRecDepth 100000 in
set_option maxHeartbeats 4000000 in
theorem c_X9_channelOf {l : Launch} {D : va_G} {k : Nat → ClassId} {w : va_W} {p0 : Int} {res : Int} (hM : m_X9_channelOf p0 = some res) : xM l yX9_channelOf wsX9_channelOf rmX9_channelOf D k [.int (xi p0)] w (some (.int (xi res))) w := by
  refine xM_of (ret := (some .int)) (by decide) rfl (Nat.le_of_ble_eq_true rfl) (fun X C => ?_)
  have C : xC D k (xo X D k (some (.int (xi res))) w) X cX9_channelOf 1 RX9 wsX9_channelOf (some .int) rmX9_channelOf := C
  show xJ l D k (xo X D k (some (.int (xi res))) w) X 1 0 [(0, .int (xi p0))] [] w
  unfold m_X9_channelOf at hM
  refine xj_iload_n C 0 dX9_channelOf_0 rfl rfl ?_
  refine xj_sipush C (n := 144) (by decide) dX9_channelOf_1 ?_
  obtain ⟨g1, hM⟩ := xck_some hM
  refine xj_icmp_ge C (tgt := 14) dX9_channelOf_4 (by decide) ⟨g1, (by decide)⟩ (fun c2 => ?_) (fun c2 => ?_)
  · have hM := xit hM c2
    refine xj_iconst C dX9_channelOf_14 ?_
    refine xj_goto C (tgt := 32) dX9_channelOf_15 (by decide) ?_
    obtain rfl := Option.some.inj hM
    exact xj_iret C rfl dX9_channelOf_32
  · have hM := xif hM c2
    refine xj_iload_n C 0 dX9_channelOf_7 rfl rfl ?_
    refine xj_bipush C (n := 9) (by decide) dX9_channelOf_8 ?_
    obtain ⟨g3, hM⟩ := xck_some hM
    refine xj_irem C ⟨g3.1, g3.2, by decide, by decide⟩ dX9_channelOf_10 ?_
    obtain ⟨g4, hM⟩ := xck_some hM
    refine xj_if_ne C (tgt := 18) dX9_channelOf_11 (by decide) g4 (fun c5 => ?_) (fun c5 => ?_)
    · have hM := xif hM c5
      refine xj_bipush C (n := 8) (by decide) dX9_channelOf_18 ?_
      refine xj_iload_n C 0 dX9_channelOf_20 rfl rfl ?_
      refine xj_bipush C (n := 9) (by decide) dX9_channelOf_21 ?_
      refine xj_idiv C ⟨g3.1, g3.2, by decide, by decide⟩ dX9_channelOf_23 ?_
      refine xj_imul C dX9_channelOf_24 ?_
      refine xj_iload_n C 0 dX9_channelOf_25 rfl rfl ?_
      refine xj_bipush C (n := 9) (by decide) dX9_channelOf_26 ?_
      refine xj_irem C ⟨g3.1, g3.2, by decide, by decide⟩ dX9_channelOf_28 ?_
      refine xj_iadd C dX9_channelOf_29 ?_
      refine xj_iconst C dX9_channelOf_30 ?_
      refine xj_isub C dX9_channelOf_31 ?_
      obtain rfl := Option.some.inj hM
      exact xj_iret C rfl dX9_channelOf_32
    · have hM := xit hM c5
      refine xj_iconst C dX9_channelOf_14 ?_
      refine xj_goto C (tgt := 32) dX9_channelOf_15 (by decide) ?_
      obtain rfl := Option.some.inj hM
      exact xj_iret C rfl dX9_channelOf_32
def rmX9_outputWire : Room := { frames := 1, cells := 0, slots := 0, locals := 22 }
theorem hv_X9_outputWire : yX9_outputWire.cls ≠ "java/lang/invoke/MethodHandle" ∧ yX9_outputWire.cls ≠ "java/lang/invoke/VarHandle" ∧ (parseMethodDescriptor yX9_outputWire.desc).map (fun d => d.parameters.length) = some 1 := by decide +kernel
def m_X9_outputWire (p0 : Int) : Option (Int) := (m_X9_channel ((4 * p0) + 3) 1 0).bind (fun r1 => some r1)
set_option maxRecDepth 100000 in
set_option maxHeartbeats 4000000 in
theorem c_X9_outputWire {l : Launch} {D : va_G} {k : Nat → ClassId} {w : va_W} {p0 : Int} {res : Int} (hM : m_X9_outputWire p0 = some res) : xM l yX9_outputWire wsX9_outputWire rmX9_outputWire D k [.int (xi p0)] w (some (.int (xi res))) w := by
  refine xM_of (ret := (some .int)) (by decide) rfl (Nat.le_of_ble_eq_true rfl) (fun X C => ?_)
  have C : xC D k (xo X D k (some (.int (xi res))) w) X cX9_outputWire 1 RX9 wsX9_outputWire (some .int) rmX9_outputWire := C
  show xJ l D k (xo X D k (some (.int (xi res))) w) X 1 0 [(0, .int (xi p0))] [] w
  unfold m_X9_outputWire at hM
  refine xj_iconst C dX9_outputWire_0 ?_
  refine xj_iload_n C 0 dX9_outputWire_1 rfl rfl ?_
  refine xj_imul C dX9_outputWire_2 ?_
  refine xj_iconst C dX9_outputWire_3 ?_
  refine xj_iadd C dX9_outputWire_4 ?_
  refine xj_iconst C dX9_outputWire_5 ?_
  refine xj_iconst C dX9_outputWire_6 ?_
  obtain ⟨r1, hRr1, hM⟩ := xbd hM
  refine xj_callS C [.int (xi ((4 * p0) + 3)), .int (xi 1), .int (xi 0)] [] 3 (c_X9_channel hRr1) gX9_outputWire_X9_channel rfl ⟨rfl, rfl⟩ hv_X9_channel ⟨Nat.le_of_ble_eq_true rfl, Nat.le_of_ble_eq_true rfl⟩ rfl (Nat.le_of_ble_eq_true rfl) dX9_outputWire_7 ?_
  obtain rfl := Option.some.inj hM
  exact xj_iret C rfl dX9_outputWire_10
def rmX9_cell : Room := { frames := 0, cells := 0, slots := 0, locals := 0 }
theorem hv_X9_cell : yX9_cell.cls = RX9 ∧ yX9_cell.cls ≠ "java/lang/invoke/MethodHandle" ∧ yX9_cell.cls ≠ "java/lang/invoke/VarHandle" ∧ (parseMethodDescriptor yX9_cell.desc).map (fun d => d.parameters.length) = some 3 := by decide +kernel
def m_X9_cell (p1 : Int) (p2 : Int) (p3 : Int) (S : xS) : Option (Int × xS) := xck (xr (S 50 0)) (if (S 50 0) = 10 then some ((-1), S) else xck (0 ≤ (S 50 0) ∧ (S 50 0) < 10) (xck ((0 ≤ (S 50 0) ∧ (S 50 0) < 10) ∧ (p2 = 0 ∨ p2 = 1)) (xck ((p3 = 0 ∨ p3 = 1)) ((xck (xr p3) (if p3 = 0 then some 0 else some 1)).bind (fun r6 => some ((((S 50 0) + 1) - 1), (xup (xup (xup (xup (xup (xup S 6 (S 50 0) (xb_iand p1 255)) 7 (S 50 0) p2) 8 (S 50 0) p3) 9 (S 50 0) r6) 10 (S 50 0) (-1)) 50 0 ((S 50 0) + 1))))))))
set_option maxRecDepth 100000 in
set_option maxHeartbeats 4000000 in
theorem c_X9_cell {l : Launch} {D : va_G} {k : Nat → ClassId} {ad : Nat → Nat} {S : xS} {p1 : Int} {p2 : Int} {p3 : Int} {res : Int × xS} (hM : m_X9_cell p1 p2 p3 S = some res) : xM l yX9_cell wsX9_cell rmX9_cell D k [.ref (ad 24), .int (xi p1), .int (xi p2), .int (xi p3)] (wY ad k S) (some (.int (xi res.1))) (wY ad k res.2) := by
  refine xM_of (ret := (some .int)) (by decide) rfl (Nat.le_of_ble_eq_true rfl) (fun X C => ?_)
  have C : xC D k (xo X D k (some (.int (xi res.1))) (wY ad k res.2)) X cX9_cell 4 RX9 wsX9_cell (some .int) rmX9_cell := C
  show xJ l D k (xo X D k (some (.int (xi res.1))) (wY ad k res.2)) X 4 0 [(0, .ref (ad 24)), (1, .int (xi p1)), (2, .int (xi p2)), (3, .int (xi p3))] [] (wY ad k S)
  unfold m_X9_cell at hM
  refine xj_aload_n C 0 dX9_cell_0 rfl rfl ?_
  refine xj_get C (v := .int (xi (S 50 0))) (fun _ h => List.mem_cons_of_mem _ (List.mem_append_right _ h)) 24 (eY_24 ad k S) rfl 6 (by decide) (List.mem_of_getElem? (i := 1) rfl) (fun _ _ h => h) rfl dX9_cell_1 ?_
  refine xj_bipush C (n := 10) (by decide) dX9_cell_4 ?_
  obtain ⟨g1, hM⟩ := xck_some hM
  refine xj_icmp_ne C (tgt := 11) dX9_cell_6 (by decide) ⟨g1, (by decide)⟩ (fun c2 => ?_) (fun c2 => ?_)
  · have hM := xif hM c2
    refine xj_aload_n C 0 dX9_cell_11 rfl rfl ?_
    refine xj_get C (fun _ h => List.mem_cons_of_mem _ (List.mem_append_right _ h)) 24 (eY_24 ad k S) rfl 7 (by decide) (List.mem_of_getElem? (i := 2) rfl) (fun _ _ h => h) rfl dX9_cell_12 ?_
    refine xj_aload_n C 0 dX9_cell_15 rfl rfl ?_
    refine xj_get C (v := .int (xi (S 50 0))) (fun _ h => List.mem_cons_of_mem _ (List.mem_append_right _ h)) 24 (eY_24 ad k S) rfl 6 (by decide) (List.mem_of_getElem? (i := 1) rfl) (fun _ _ h => h) rfl dX9_cell_16 ?_
    refine xj_iload_n C 1 dX9_cell_19 rfl rfl ?_
    refine xj_sipush C (n := 255) (by decide) dX9_cell_20 ?_
    refine xj_iand C dX9_cell_23 ?_
    obtain ⟨g3, hM⟩ := xck_some hM
    refine xj_iast C 6 S 6 (eY_6 ad k S) (Nat.le_of_ble_eq_true rfl) g3 (sY_6 ad k S (S 50 0) (xb_iand p1 255)) dX9_cell_24 ?_
    refine xj_aload_n C 0 dX9_cell_25 rfl rfl ?_
    refine xj_get C (fun _ h => List.mem_cons_of_mem _ (List.mem_append_right _ h)) 24 (eY_24 ad k (xup S 6 (S 50 0) (xb_iand p1 255))) rfl 8 (by decide) (List.mem_of_getElem? (i := 3) rfl) (fun _ _ h => h) rfl dX9_cell_26 ?_
    refine xj_aload_n C 0 dX9_cell_29 rfl rfl ?_
    refine xj_get C (v := .int (xi (S 50 0))) (fun _ h => List.mem_cons_of_mem _ (List.mem_append_right _ h)) 24 (eY_24 ad k (xup S 6 (S 50 0) (xb_iand p1 255))) rfl 6 (by decide) (List.mem_of_getElem? (i := 1) rfl) (fun _ _ h => h) rfl dX9_cell_30 ?_
    refine xj_iload_n C 2 dX9_cell_33 rfl rfl ?_
    obtain ⟨g4, hM⟩ := xck_some hM
    refine xj_zast C 7 (xup S 6 (S 50 0) (xb_iand p1 255)) 7 (eY_7 ad k (xup S 6 (S 50 0) (xb_iand p1 255))) (Nat.le_of_ble_eq_true rfl) g4.2 g4.1 (sY_7 ad k (xup S 6 (S 50 0) (xb_iand p1 255)) (S 50 0) p2) dX9_cell_34 ?_
    refine xj_aload_n C 0 dX9_cell_35 rfl rfl ?_
    refine xj_get C (fun _ h => List.mem_cons_of_mem _ (List.mem_append_right _ h)) 24 (eY_24 ad k (xup (xup S 6 (S 50 0) (xb_iand p1 255)) 7 (S 50 0) p2)) rfl 9 (by decide) (List.mem_of_getElem? (i := 4) rfl) (fun _ _ h => h) rfl dX9_cell_36 ?_
    refine xj_aload_n C 0 dX9_cell_39 rfl rfl ?_
    refine xj_get C (v := .int (xi (S 50 0))) (fun _ h => List.mem_cons_of_mem _ (List.mem_append_right _ h)) 24 (eY_24 ad k (xup (xup S 6 (S 50 0) (xb_iand p1 255)) 7 (S 50 0) p2)) rfl 6 (by decide) (List.mem_of_getElem? (i := 1) rfl) (fun _ _ h => h) rfl dX9_cell_40 ?_
    refine xj_iload_n C 3 dX9_cell_43 rfl rfl ?_
    obtain ⟨g5, hM⟩ := xck_some hM
    refine xj_zast C 8 (xup (xup S 6 (S 50 0) (xb_iand p1 255)) 7 (S 50 0) p2) 8 (eY_8 ad k (xup (xup S 6 (S 50 0) (xb_iand p1 255)) 7 (S 50 0) p2)) (Nat.le_of_ble_eq_true rfl) g5 g4.1 (sY_8 ad k (xup (xup S 6 (S 50 0) (xb_iand p1 255)) 7 (S 50 0) p2) (S 50 0) p3) dX9_cell_44 ?_
    refine xj_aload_n C 0 dX9_cell_45 rfl rfl ?_
    refine xj_get C (fun _ h => List.mem_cons_of_mem _ (List.mem_append_right _ h)) 24 (eY_24 ad k (xup (xup (xup S 6 (S 50 0) (xb_iand p1 255)) 7 (S 50 0) p2) 8 (S 50 0) p3)) rfl 10 (by decide) (List.mem_of_getElem? (i := 5) rfl) (fun _ _ h => h) rfl dX9_cell_46 ?_
    refine xj_aload_n C 0 dX9_cell_49 rfl rfl ?_
    refine xj_get C (v := .int (xi (S 50 0))) (fun _ h => List.mem_cons_of_mem _ (List.mem_append_right _ h)) 24 (eY_24 ad k (xup (xup (xup S 6 (S 50 0) (xb_iand p1 255)) 7 (S 50 0) p2) 8 (S 50 0) p3)) rfl 6 (by decide) (List.mem_of_getElem? (i := 1) rfl) (fun _ _ h => h) rfl dX9_cell_50 ?_
    refine xj_iload_n C 3 dX9_cell_53 rfl rfl ?_
    obtain ⟨r6, hRr6, hM⟩ := xbd hM
    have Kr6 : xJ l D k (xo X D k (some (.int (xi res.1))) (wY ad k res.2)) X 4 62 [(0, .ref (ad 24))] [.int (xi r6), .int (xi (S 50 0)), .ref (ad 9)] (wY ad k (xup (xup (xup S 6 (S 50 0) (xb_iand p1 255)) 7 (S 50 0) p2) 8 (S 50 0) p3)) := by
      refine xj_iast C 9 (xup (xup (xup S 6 (S 50 0) (xb_iand p1 255)) 7 (S 50 0) p2) 8 (S 50 0) p3) 9 (eY_9 ad k (xup (xup (xup S 6 (S 50 0) (xb_iand p1 255)) 7 (S 50 0) p2) 8 (S 50 0) p3)) (Nat.le_of_ble_eq_true rfl) g3 (sY_9 ad k (xup (xup (xup S 6 (S 50 0) (xb_iand p1 255)) 7 (S 50 0) p2) 8 (S 50 0) p3) (S 50 0) r6) dX9_cell_62 ?_
      refine xj_aload_n C 0 dX9_cell_63 rfl rfl ?_
      refine xj_get C (fun _ h => List.mem_cons_of_mem _ (List.mem_append_right _ h)) 24 (eY_24 ad k (xup (xup (xup (xup S 6 (S 50 0) (xb_iand p1 255)) 7 (S 50 0) p2) 8 (S 50 0) p3) 9 (S 50 0) r6)) rfl 11 (by decide) (List.mem_of_getElem? (i := 6) rfl) (fun _ _ h => h) rfl dX9_cell_64 ?_
      refine xj_aload_n C 0 dX9_cell_67 rfl rfl ?_
      refine xj_get C (v := .int (xi (S 50 0))) (fun _ h => List.mem_cons_of_mem _ (List.mem_append_right _ h)) 24 (eY_24 ad k (xup (xup (xup (xup S 6 (S 50 0) (xb_iand p1 255)) 7 (S 50 0) p2) 8 (S 50 0) p3) 9 (S 50 0) r6)) rfl 6 (by decide) (List.mem_of_getElem? (i := 1) rfl) (fun _ _ h => h) rfl dX9_cell_68 ?_
      refine xj_iconst C dX9_cell_71 ?_
      refine xj_iast C 10 (xup (xup (xup (xup S 6 (S 50 0) (xb_iand p1 255)) 7 (S 50 0) p2) 8 (S 50 0) p3) 9 (S 50 0) r6) 10 (eY_10 ad k (xup (xup (xup (xup S 6 (S 50 0) (xb_iand p1 255)) 7 (S 50 0) p2) 8 (S 50 0) p3) 9 (S 50 0) r6)) (Nat.le_of_ble_eq_true rfl) g3 (sY_10 ad k (xup (xup (xup (xup S 6 (S 50 0) (xb_iand p1 255)) 7 (S 50 0) p2) 8 (S 50 0) p3) 9 (S 50 0) r6) (S 50 0) (-1)) dX9_cell_72 ?_
      refine xj_aload_n C 0 dX9_cell_73 rfl rfl ?_
      refine xj_dup C rfl dX9_cell_74 ?_
      refine xj_get C (v := .int (xi (S 50 0))) (fun _ h => List.mem_cons_of_mem _ (List.mem_append_right _ h)) 24 (eY_24 ad k (xup (xup (xup (xup (xup S 6 (S 50 0) (xb_iand p1 255)) 7 (S 50 0) p2) 8 (S 50 0) p3) 9 (S 50 0) r6) 10 (S 50 0) (-1))) rfl 6 (by decide) (List.mem_of_getElem? (i := 1) rfl) (fun _ _ h => h) rfl dX9_cell_75 ?_
      refine xj_iconst C dX9_cell_78 ?_
      refine xj_iadd C dX9_cell_79 ?_
      refine xj_put C (fun _ h => List.mem_cons_of_mem _ (List.mem_append_right _ h)) tyX9 tyX9_ok nmX9 24 (eY_24 ad k (xup (xup (xup (xup (xup S 6 (S 50 0) (xb_iand p1 255)) 7 (S 50 0) p2) 8 (S 50 0) p3) 9 (S 50 0) r6) 10 (S 50 0) (-1))) rfl 6 (by decide) (List.mem_of_getElem? (i := 1) rfl) (fun _ _ h => h) rfl (tyX9_ok 6 (by decide)) (Nat.le_of_ble_eq_true rfl) (sY_50 ad k (xup (xup (xup (xup (xup S 6 (S 50 0) (xb_iand p1 255)) 7 (S 50 0) p2) 8 (S 50 0) p3) 9 (S 50 0) r6) 10 (S 50 0) (-1)) ((S 50 0) + 1)) dX9_cell_80 ?_
      refine xj_aload_n C 0 dX9_cell_83 rfl rfl ?_
      refine xj_get C (v := .int (xi ((S 50 0) + 1))) (fun _ h => List.mem_cons_of_mem _ (List.mem_append_right _ h)) 24 (eY_24 ad k (xup (xup (xup (xup (xup (xup S 6 (S 50 0) (xb_iand p1 255)) 7 (S 50 0) p2) 8 (S 50 0) p3) 9 (S 50 0) r6) 10 (S 50 0) (-1)) 50 0 ((S 50 0) + 1))) rfl 6 (by decide) (List.mem_of_getElem? (i := 1) rfl) (fun _ _ h => h) rfl dX9_cell_84 ?_
      refine xj_iconst C dX9_cell_87 ?_
      refine xj_isub C dX9_cell_88 ?_
      obtain rfl := Option.some.inj hM
      exact xj_iret C rfl dX9_cell_89
    clear hM
    have hM := hRr6
    obtain ⟨g7, hM⟩ := xck_some hM
    refine xj_if_eq C (tgt := 61) dX9_cell_54 (by decide) g7 (fun c8 => ?_) (fun c8 => ?_)
    · have hM := xit hM c8
      refine xj_iconst C dX9_cell_61 ?_
      obtain rfl := Option.some.inj hM
      refine xj_loc C [0] (L1 := [(0, .ref (ad 24))]) rfl ?_
      exact Kr6
    · have hM := xif hM c8
      refine xj_iconst C dX9_cell_57 ?_
      refine xj_goto C (tgt := 62) dX9_cell_58 (by decide) ?_
      obtain rfl := Option.some.inj hM
      refine xj_loc C [0] (L1 := [(0, .ref (ad 24))]) rfl ?_
      exact Kr6
  · have hM := xit hM c2
    refine xj_iconst C dX9_cell_9 ?_
    obtain rfl := Option.some.inj hM
    exact xj_iret C rfl dX9_cell_10
def rmX9_isSource : Room := { frames := 1, cells := 0, slots := 0, locals := 22 }
theorem hv_X9_isSource : yX9_isSource.cls = RX9 ∧ yX9_isSource.cls ≠ "java/lang/invoke/MethodHandle" ∧ yX9_isSource.cls ≠ "java/lang/invoke/VarHandle" ∧ (parseMethodDescriptor yX9_isSource.desc).map (fun d => d.parameters.length) = some 1 := by decide +kernel
def m_X9_isSource (p1 : Int) (S : xS) : Option (Int) := xck (xr p1) (if p1 = (-1) then some 1 else (m_X9_in p1 0 ((S 50 0) - 1)).bind (fun r3 => xck (xr r3) (if r3 = 0 then (m_X9_in p1 10 13).bind (fun r6 => xck (xr r6) (if r6 = 0 then some 0 else some 1)) else some 1)))
set_option maxRecDepth 100000 in
set_option maxHeartbeats 4000000 in
theorem c_X9_isSource {l : Launch} {D : va_G} {k : Nat → ClassId} {ad : Nat → Nat} {S : xS} {p1 : Int} {res : Int} (hM : m_X9_isSource p1 S = some res) : xM l yX9_isSource wsX9_isSource rmX9_isSource D k [.ref (ad 24), .int (xi p1)] (wY ad k S) (some (.int (xi res))) (wY ad k S) := by
  refine xM_of (ret := (some .boolean)) (by decide) rfl (Nat.le_of_ble_eq_true rfl) (fun X C => ?_)
  have C : xC D k (xo X D k (some (.int (xi res))) (wY ad k S)) X cX9_isSource 2 RX9 wsX9_isSource (some .boolean) rmX9_isSource := C
  show xJ l D k (xo X D k (some (.int (xi res))) (wY ad k S)) X 2 0 [(0, .ref (ad 24)), (1, .int (xi p1))] [] (wY ad k S)
  unfold m_X9_isSource at hM
  refine xj_iload_n C 1 dX9_isSource_0 rfl rfl ?_
  refine xj_iconst C dX9_isSource_1 ?_
  obtain ⟨g1, hM⟩ := xck_some hM
  refine xj_icmp_eq C (tgt := 30) dX9_isSource_2 (by decide) ⟨g1, (by decide)⟩ (fun c2 => ?_) (fun c2 => ?_)
  · have hM := xit hM c2
    refine xj_iconst C dX9_isSource_30 ?_
    refine xj_goto C (tgt := 35) dX9_isSource_31 (by decide) ?_
    obtain rfl := Option.some.inj hM
    exact xj_zret (Or.inr rfl) C rfl dX9_isSource_35
  · have hM := xif hM c2
    refine xj_iload_n C 1 dX9_isSource_5 rfl rfl ?_
    refine xj_iconst C dX9_isSource_6 ?_
    refine xj_aload_n C 0 dX9_isSource_7 rfl rfl ?_
    refine xj_get C (v := .int (xi (S 50 0))) (fun _ h => List.mem_cons_of_mem _ (List.mem_append_right _ h)) 24 (eY_24 ad k S) rfl 6 (by decide) (List.mem_of_getElem? (i := 1) rfl) (fun _ _ h => h) rfl dX9_isSource_8 ?_
    refine xj_iconst C dX9_isSource_11 ?_
    refine xj_isub C dX9_isSource_12 ?_
    obtain ⟨r3, hRr3, hM⟩ := xbd hM
    refine xj_callS C [.int (xi p1), .int (xi 0), .int (xi ((S 50 0) - 1))] [] 3 (c_X9_in hRr3) gX9_isSource_X9_in rfl ⟨rfl, rfl⟩ hv_X9_in ⟨Nat.le_of_ble_eq_true rfl, Nat.le_of_ble_eq_true rfl⟩ rfl (Nat.le_of_ble_eq_true rfl) dX9_isSource_13 ?_
    obtain ⟨g4, hM⟩ := xck_some hM
    refine xj_if_ne C (tgt := 30) dX9_isSource_16 (by decide) g4 (fun c5 => ?_) (fun c5 => ?_)
    · have hM := xif hM c5
      refine xj_iconst C dX9_isSource_30 ?_
      refine xj_goto C (tgt := 35) dX9_isSource_31 (by decide) ?_
      obtain rfl := Option.some.inj hM
      exact xj_zret (Or.inr rfl) C rfl dX9_isSource_35
    · have hM := xit hM c5
      refine xj_iload_n C 1 dX9_isSource_19 rfl rfl ?_
      refine xj_bipush C (n := 10) (by decide) dX9_isSource_20 ?_
      refine xj_bipush C (n := 13) (by decide) dX9_isSource_22 ?_
      obtain ⟨r6, hRr6, hM⟩ := xbd hM
      refine xj_callS C [.int (xi p1), .int (xi 10), .int (xi 13)] [] 3 (c_X9_in hRr6) gX9_isSource_X9_in rfl ⟨rfl, rfl⟩ hv_X9_in ⟨Nat.le_of_ble_eq_true rfl, Nat.le_of_ble_eq_true rfl⟩ rfl (Nat.le_of_ble_eq_true rfl) dX9_isSource_24 ?_
      obtain ⟨g7, hM⟩ := xck_some hM
      refine xj_if_eq C (tgt := 34) dX9_isSource_27 (by decide) g7 (fun c8 => ?_) (fun c8 => ?_)
      · have hM := xit hM c8
        refine xj_iconst C dX9_isSource_34 ?_
        obtain rfl := Option.some.inj hM
        exact xj_zret (Or.inl rfl) C rfl dX9_isSource_35
      · have hM := xif hM c8
        refine xj_iconst C dX9_isSource_30 ?_
        refine xj_goto C (tgt := 35) dX9_isSource_31 (by decide) ?_
        obtain rfl := Option.some.inj hM
        exact xj_zret (Or.inr rfl) C rfl dX9_isSource_35
def rmX9_connect : Room := { frames := 2, cells := 0, slots := 0, locals := 43 }
theorem hv_X9_connect : yX9_connect.cls = RX9 ∧ yX9_connect.cls ≠ "java/lang/invoke/MethodHandle" ∧ yX9_connect.cls ≠ "java/lang/invoke/VarHandle" ∧ (parseMethodDescriptor yX9_connect.desc).map (fun d => d.parameters.length) = some 3 := by decide +kernel
def m_X9_connect (p1 : Int) (p2 : Int) (p3 : Int) (S : xS) : Option (Int × xS) := (m_X9_in p1 0 ((S 50 0) - 1)).bind (fun r1 => xck (xr r1) (if r1 = 0 then some (0, S) else (m_X9_in p2 0 2).bind (fun r4 => xck (xr r4) (if r4 = 0 then some (0, S) else (m_X9_isSource p3 S).bind (fun r7 => xck (xr r7) (if r7 = 0 then some (0, S) else xck (0 ≤ ((3 * p1) + p2) ∧ ((3 * p1) + p2) < 34) (some (1, (xup S 11 ((3 * p1) + p2) p3)))))))))
set_option maxRecDepth 100000 in
set_option maxHeartbeats 4000000 in
theorem c_X9_connect {l : Launch} {D : va_G} {k : Nat → ClassId} {ad : Nat → Nat} {S : xS} {p1 : Int} {p2 : Int} {p3 : Int} {res : Int × xS} (hM : m_X9_connect p1 p2 p3 S = some res) : xM l yX9_connect wsX9_connect rmX9_connect D k [.ref (ad 24), .int (xi p1), .int (xi p2), .int (xi p3)] (wY ad k S) (some (.int (xi res.1))) (wY ad k res.2) := by
  refine xM_of (ret := (some .boolean)) (by decide) rfl (Nat.le_of_ble_eq_true rfl) (fun X C => ?_)
  have C : xC D k (xo X D k (some (.int (xi res.1))) (wY ad k res.2)) X cX9_connect 4 RX9 wsX9_connect (some .boolean) rmX9_connect := C
  show xJ l D k (xo X D k (some (.int (xi res.1))) (wY ad k res.2)) X 4 0 [(0, .ref (ad 24)), (1, .int (xi p1)), (2, .int (xi p2)), (3, .int (xi p3))] [] (wY ad k S)
  unfold m_X9_connect at hM
  refine xj_iload_n C 1 dX9_connect_0 rfl rfl ?_
  refine xj_iconst C dX9_connect_1 ?_
  refine xj_aload_n C 0 dX9_connect_2 rfl rfl ?_
  refine xj_get C (v := .int (xi (S 50 0))) (fun _ h => List.mem_cons_of_mem _ (List.mem_append_right _ h)) 24 (eY_24 ad k S) rfl 6 (by decide) (List.mem_of_getElem? (i := 1) rfl) (fun _ _ h => h) rfl dX9_connect_3 ?_
  refine xj_iconst C dX9_connect_6 ?_
  refine xj_isub C dX9_connect_7 ?_
  obtain ⟨r1, hRr1, hM⟩ := xbd hM
  refine xj_callS C [.int (xi p1), .int (xi 0), .int (xi ((S 50 0) - 1))] [] 3 (c_X9_in hRr1) gX9_connect_X9_in rfl ⟨rfl, rfl⟩ hv_X9_in ⟨Nat.le_of_ble_eq_true rfl, Nat.le_of_ble_eq_true rfl⟩ rfl (Nat.le_of_ble_eq_true rfl) dX9_connect_8 ?_
  obtain ⟨g2, hM⟩ := xck_some hM
  refine xj_if_eq C (tgt := 31) dX9_connect_11 (by decide) g2 (fun c3 => ?_) (fun c3 => ?_)
  · have hM := xit hM c3
    refine xj_iconst C dX9_connect_31 ?_
    obtain rfl := Option.some.inj hM
    exact xj_zret (Or.inl rfl) C rfl dX9_connect_32
  · have hM := xif hM c3
    refine xj_iload_n C 2 dX9_connect_14 rfl rfl ?_
    refine xj_iconst C dX9_connect_15 ?_
    refine xj_iconst C dX9_connect_16 ?_
    obtain ⟨r4, hRr4, hM⟩ := xbd hM
    refine xj_callS C [.int (xi p2), .int (xi 0), .int (xi 2)] [] 3 (c_X9_in hRr4) gX9_connect_X9_in rfl ⟨rfl, rfl⟩ hv_X9_in ⟨Nat.le_of_ble_eq_true rfl, Nat.le_of_ble_eq_true rfl⟩ rfl (Nat.le_of_ble_eq_true rfl) dX9_connect_17 ?_
    obtain ⟨g5, hM⟩ := xck_some hM
    refine xj_if_eq C (tgt := 31) dX9_connect_20 (by decide) g5 (fun c6 => ?_) (fun c6 => ?_)
    · have hM := xit hM c6
      refine xj_iconst C dX9_connect_31 ?_
      obtain rfl := Option.some.inj hM
      exact xj_zret (Or.inl rfl) C rfl dX9_connect_32
    · have hM := xif hM c6
      refine xj_aload_n C 0 dX9_connect_23 rfl rfl ?_
      refine xj_iload_n C 3 dX9_connect_24 rfl rfl ?_
      obtain ⟨r7, hRr7, hM⟩ := xbd hM
      refine xj_callV C [.int (xi p3)] [] 1 (c_X9_isSource hRr7) gX9_connect_X9_isSource rfl ⟨rfl, rfl⟩ hv_X9_isSource ⟨Nat.le_of_ble_eq_true rfl, Nat.le_of_ble_eq_true rfl⟩ 24 (eY_24 ad k _) rfl rfl (Nat.le_of_ble_eq_true rfl) dX9_connect_25 ?_
      obtain ⟨g8, hM⟩ := xck_some hM
      refine xj_if_ne C (tgt := 33) dX9_connect_28 (by decide) g8 (fun c9 => ?_) (fun c9 => ?_)
      · have hM := xif hM c9
        refine xj_aload_n C 0 dX9_connect_33 rfl rfl ?_
        refine xj_get C (fun _ h => List.mem_cons_of_mem _ (List.mem_append_right _ h)) 24 (eY_24 ad k S) rfl 12 (by decide) (List.mem_of_getElem? (i := 2) rfl) (fun _ _ h => h) rfl dX9_connect_34 ?_
        refine xj_iconst C dX9_connect_37 ?_
        refine xj_iload_n C 1 dX9_connect_38 rfl rfl ?_
        refine xj_imul C dX9_connect_39 ?_
        refine xj_iload_n C 2 dX9_connect_40 rfl rfl ?_
        refine xj_iadd C dX9_connect_41 ?_
        refine xj_iload_n C 3 dX9_connect_42 rfl rfl ?_
        obtain ⟨g10, hM⟩ := xck_some hM
        refine xj_iast C 11 S 11 (eY_11 ad k S) (Nat.le_of_ble_eq_true rfl) g10 (sY_11 ad k S ((3 * p1) + p2) p3) dX9_connect_43 ?_
        refine xj_iconst C dX9_connect_44 ?_
        obtain rfl := Option.some.inj hM
        exact xj_zret (Or.inr rfl) C rfl dX9_connect_45
      · have hM := xit hM c9
        refine xj_iconst C dX9_connect_31 ?_
        obtain rfl := Option.some.inj hM
        exact xj_zret (Or.inl rfl) C rfl dX9_connect_32
def rmX9_output : Room := { frames := 2, cells := 0, slots := 0, locals := 43 }
theorem hv_X9_output : yX9_output.cls = RX9 ∧ yX9_output.cls ≠ "java/lang/invoke/MethodHandle" ∧ yX9_output.cls ≠ "java/lang/invoke/VarHandle" ∧ (parseMethodDescriptor yX9_output.desc).map (fun d => d.parameters.length) = some 2 := by decide +kernel
def m_X9_output (p1 : Int) (p2 : Int) (S : xS) : Option (Int × xS) := (m_X9_in p1 0 3).bind (fun r1 => xck (xr r1) (if r1 = 0 then some (0, S) else (m_X9_isSource p2 S).bind (fun r4 => xck (xr r4) (if r4 = 0 then some (0, S) else xck (0 ≤ (30 + p1) ∧ (30 + p1) < 34) (some (1, (xup S 11 (30 + p1) p2)))))))
set_option maxRecDepth 100000 in
set_option maxHeartbeats 4000000 in
theorem c_X9_output {l : Launch} {D : va_G} {k : Nat → ClassId} {ad : Nat → Nat} {S : xS} {p1 : Int} {p2 : Int} {res : Int × xS} (hM : m_X9_output p1 p2 S = some res) : xM l yX9_output wsX9_output rmX9_output D k [.ref (ad 24), .int (xi p1), .int (xi p2)] (wY ad k S) (some (.int (xi res.1))) (wY ad k res.2) := by
  refine xM_of (ret := (some .boolean)) (by decide) rfl (Nat.le_of_ble_eq_true rfl) (fun X C => ?_)
  have C : xC D k (xo X D k (some (.int (xi res.1))) (wY ad k res.2)) X cX9_output 3 RX9 wsX9_output (some .boolean) rmX9_output := C
  show xJ l D k (xo X D k (some (.int (xi res.1))) (wY ad k res.2)) X 3 0 [(0, .ref (ad 24)), (1, .int (xi p1)), (2, .int (xi p2))] [] (wY ad k S)
  unfold m_X9_output at hM
  refine xj_iload_n C 1 dX9_output_0 rfl rfl ?_
  refine xj_iconst C dX9_output_1 ?_
  refine xj_iconst C dX9_output_2 ?_
  obtain ⟨r1, hRr1, hM⟩ := xbd hM
  refine xj_callS C [.int (xi p1), .int (xi 0), .int (xi 3)] [] 3 (c_X9_in hRr1) gX9_output_X9_in rfl ⟨rfl, rfl⟩ hv_X9_in ⟨Nat.le_of_ble_eq_true rfl, Nat.le_of_ble_eq_true rfl⟩ rfl (Nat.le_of_ble_eq_true rfl) dX9_output_3 ?_
  obtain ⟨g2, hM⟩ := xck_some hM
  refine xj_if_eq C (tgt := 17) dX9_output_6 (by decide) g2 (fun c3 => ?_) (fun c3 => ?_)
  · have hM := xit hM c3
    refine xj_iconst C dX9_output_17 ?_
    obtain rfl := Option.some.inj hM
    exact xj_zret (Or.inl rfl) C rfl dX9_output_18
  · have hM := xif hM c3
    refine xj_aload_n C 0 dX9_output_9 rfl rfl ?_
    refine xj_iload_n C 2 dX9_output_10 rfl rfl ?_
    obtain ⟨r4, hRr4, hM⟩ := xbd hM
    refine xj_callV C [.int (xi p2)] [] 1 (c_X9_isSource hRr4) gX9_output_X9_isSource rfl ⟨rfl, rfl⟩ hv_X9_isSource ⟨Nat.le_of_ble_eq_true rfl, Nat.le_of_ble_eq_true rfl⟩ 24 (eY_24 ad k _) rfl rfl (Nat.le_of_ble_eq_true rfl) dX9_output_11 ?_
    obtain ⟨g5, hM⟩ := xck_some hM
    refine xj_if_ne C (tgt := 19) dX9_output_14 (by decide) g5 (fun c6 => ?_) (fun c6 => ?_)
    · have hM := xif hM c6
      refine xj_aload_n C 0 dX9_output_19 rfl rfl ?_
      refine xj_get C (fun _ h => List.mem_cons_of_mem _ (List.mem_append_right _ h)) 24 (eY_24 ad k S) rfl 12 (by decide) (List.mem_of_getElem? (i := 1) rfl) (fun _ _ h => h) rfl dX9_output_20 ?_
      refine xj_bipush C (n := 30) (by decide) dX9_output_23 ?_
      refine xj_iload_n C 1 dX9_output_25 rfl rfl ?_
      refine xj_iadd C dX9_output_26 ?_
      refine xj_iload_n C 2 dX9_output_27 rfl rfl ?_
      obtain ⟨g7, hM⟩ := xck_some hM
      refine xj_iast C 11 S 11 (eY_11 ad k S) (Nat.le_of_ble_eq_true rfl) g7 (sY_11 ad k S (30 + p1) p2) dX9_output_28 ?_
      refine xj_iconst C dX9_output_29 ?_
      obtain rfl := Option.some.inj hM
      exact xj_zret (Or.inr rfl) C rfl dX9_output_30
    · have hM := xit hM c6
      refine xj_iconst C dX9_output_17 ?_
      obtain rfl := Option.some.inj hM
      exact xj_zret (Or.inl rfl) C rfl dX9_output_18
def rmX9_fix : Room := { frames := 1, cells := 0, slots := 0, locals := 22 }
theorem hv_X9_fix : yX9_fix.cls = RX9 ∧ yX9_fix.cls ≠ "java/lang/invoke/MethodHandle" ∧ yX9_fix.cls ≠ "java/lang/invoke/VarHandle" ∧ (parseMethodDescriptor yX9_fix.desc).map (fun d => d.parameters.length) = some 2 := by decide +kernel
def m_X9_fix_L28 (p1 : Int) (p2 : Int) (S : xS) : Nat → Int → Option ((Unit) ⊕ (Int × xS))
  | 0, _ => none
  | n + 1, v3 => xck (xr v3 ∧ xr (S 50 0)) (if (S 50 0) ≤ v3 then some (.inl ()) else xck (xr p2) (if p2 < 0 then some (.inl ()) else xck (xr p1) (if v3 = p1 then m_X9_fix_L28 p1 p2 S n (v3 + 1) else xck (0 ≤ v3 ∧ v3 < 10) (xck (xr (S 10 v3)) (if (S 10 v3) = p2 then some (.inr (0, S)) else m_X9_fix_L28 p1 p2 S n (v3 + 1))))))
def m_X9_fix (p1 : Int) (p2 : Int) (S : xS) : Option (Int × xS) := (m_X9_in p1 0 ((S 50 0) - 1)).bind (fun r1 => xck (xr r1) (if r1 = 0 then some (0, S) else (m_X9_in p2 (-1) 15).bind (fun r4 => xck (xr r4) (if r4 = 0 then some (0, S) else (m_X9_fix_L28 p1 p2 S 2000 0).bind (fun r16 => match r16 with | .inl t17 => xck (0 ≤ p1 ∧ p1 < 10) (some (1, (xup S 10 p1 p2))) | .inr y18 => some y18)))))
set_option maxRecDepth 100000 in
set_option maxHeartbeats 4000000 in
theorem j_X9_fix_L28 {l : Launch} {D : va_G} {k : Nat → ClassId} {ad : Nat → Nat} {o : xO} {X : xX} (C : xC D k o X cX9_fix 4 RX9 wsX9_fix (some .boolean) rmX9_fix) (p1 : Int) (p2 : Int) (S : xS) : ∀ (n : Nat) (v3 : Int) (r : (Unit) ⊕ (Int × xS)), m_X9_fix_L28 p1 p2 S n v3 = some r → (∀ t, r = .inl t → xJ l D k o X 4 63 [(0, .ref (ad 24)), (1, .int (xi p1)), (2, .int (xi p2))] [] (wY ad k S)) → (∀ x, r = .inr x → o = (xo X D k (some (.int (xi x.1))) (wY ad k x.2))) → xJ l D k o X 4 28 [(0, .ref (ad 24)), (1, .int (xi p1)), (2, .int (xi p2)), (3, .int (xi v3))] [] (wY ad k S) := by
  intro n
  induction n with
  | zero =>
    intro v3 r hM
    cases hM
  | succ n ih =>
    intro v3 r hM K K2
    unfold m_X9_fix_L28 at hM
    refine xj_iload_n C 3 dX9_fix_28 rfl rfl ?_
    refine xj_aload_n C 0 dX9_fix_29 rfl rfl ?_
    refine xj_get C (v := .int (xi (S 50 0))) (fun _ h => List.mem_cons_of_mem _ (List.mem_append_right _ h)) 24 (eY_24 ad k S) rfl 6 (by decide) (List.mem_of_getElem? (i := 1) rfl) (fun _ _ h => h) rfl dX9_fix_30 ?_
    obtain ⟨g7, hM⟩ := xck_some hM
    refine xj_icmp_ge C (tgt := 63) dX9_fix_33 (by decide) ⟨g7.1, g7.2⟩ (fun c8 => ?_) (fun c8 => ?_)
    · have hM := xit hM c8
      obtain rfl := Option.some.inj hM
      refine xj_loc C [0, 1, 2] (L1 := [(0, .ref (ad 24)), (1, .int (xi p1)), (2, .int (xi p2))]) rfl ?_
      exact K _ rfl
    · have hM := xif hM c8
      refine xj_iload_n C 2 dX9_fix_36 rfl rfl ?_
      obtain ⟨g9, hM⟩ := xck_some hM
      refine xj_if_lt C (tgt := 63) dX9_fix_37 (by decide) g9 (fun c10 => ?_) (fun c10 => ?_)
      · have hM := xit hM c10
        obtain rfl := Option.some.inj hM
        refine xj_loc C [0, 1, 2] (L1 := [(0, .ref (ad 24)), (1, .int (xi p1)), (2, .int (xi p2))]) rfl ?_
        exact K _ rfl
      · have hM := xif hM c10
        refine xj_iload_n C 3 dX9_fix_40 rfl rfl ?_
        refine xj_iload_n C 1 dX9_fix_41 rfl rfl ?_
        obtain ⟨g11, hM⟩ := xck_some hM
        refine xj_icmp_eq C (tgt := 57) dX9_fix_42 (by decide) ⟨g7.1, g11⟩ (fun c12 => ?_) (fun c12 => ?_)
        · have hM := xit hM c12
          refine xj_iinc C 3 (L1 := [(3, .int (xi (v3 + 1))), (0, .ref (ad 24)), (1, .int (xi p1)), (2, .int (xi p2))]) dX9_fix_57 rfl (by decide) rfl ?_
          refine xj_goto C (tgt := 28) dX9_fix_60 (by decide) ?_
          refine xj_loc C [1, 2, 3, 0] (L1 := [(0, .ref (ad 24)), (1, .int (xi p1)), (2, .int (xi p2)), (3, .int (xi (v3 + 1)))]) rfl ?_
          exact ih _ _ hM K K2
        · have hM := xif hM c12
          refine xj_aload_n C 0 dX9_fix_45 rfl rfl ?_
          refine xj_get C (fun _ h => List.mem_cons_of_mem _ (List.mem_append_right _ h)) 24 (eY_24 ad k S) rfl 11 (by decide) (List.mem_of_getElem? (i := 2) rfl) (fun _ _ h => h) rfl dX9_fix_46 ?_
          refine xj_iload_n C 3 dX9_fix_49 rfl rfl ?_
          obtain ⟨g13, hM⟩ := xck_some hM
          refine xj_iald C 10 S 10 (eY_10 ad k S) (Nat.le_of_ble_eq_true rfl) g13 dX9_fix_50 ?_
          refine xj_iload_n C 2 dX9_fix_51 rfl rfl ?_
          obtain ⟨g14, hM⟩ := xck_some hM
          refine xj_icmp_ne C (tgt := 57) dX9_fix_52 (by decide) ⟨g14, g9⟩ (fun c15 => ?_) (fun c15 => ?_)
          · have hM := xif hM c15
            refine xj_iinc C 3 (L1 := [(3, .int (xi (v3 + 1))), (0, .ref (ad 24)), (1, .int (xi p1)), (2, .int (xi p2))]) dX9_fix_57 rfl (by decide) rfl ?_
            refine xj_goto C (tgt := 28) dX9_fix_60 (by decide) ?_
            refine xj_loc C [1, 2, 3, 0] (L1 := [(0, .ref (ad 24)), (1, .int (xi p1)), (2, .int (xi p2)), (3, .int (xi (v3 + 1)))]) rfl ?_
            exact ih _ _ hM K K2
          · have hM := xit hM c15
            refine xj_iconst C dX9_fix_55 ?_
            obtain rfl := Option.some.inj hM
            obtain rfl := K2 _ rfl
            exact xj_zret (Or.inl rfl) C rfl dX9_fix_56
set_option maxRecDepth 100000 in
set_option maxHeartbeats 4000000 in
theorem c_X9_fix {l : Launch} {D : va_G} {k : Nat → ClassId} {ad : Nat → Nat} {S : xS} {p1 : Int} {p2 : Int} {res : Int × xS} (hM : m_X9_fix p1 p2 S = some res) : xM l yX9_fix wsX9_fix rmX9_fix D k [.ref (ad 24), .int (xi p1), .int (xi p2)] (wY ad k S) (some (.int (xi res.1))) (wY ad k res.2) := by
  refine xM_of (ret := (some .boolean)) (by decide) rfl (Nat.le_of_ble_eq_true rfl) (fun X C => ?_)
  have C : xC D k (xo X D k (some (.int (xi res.1))) (wY ad k res.2)) X cX9_fix 4 RX9 wsX9_fix (some .boolean) rmX9_fix := C
  show xJ l D k (xo X D k (some (.int (xi res.1))) (wY ad k res.2)) X 4 0 [(0, .ref (ad 24)), (1, .int (xi p1)), (2, .int (xi p2))] [] (wY ad k S)
  unfold m_X9_fix at hM
  refine xj_iload_n C 1 dX9_fix_0 rfl rfl ?_
  refine xj_iconst C dX9_fix_1 ?_
  refine xj_aload_n C 0 dX9_fix_2 rfl rfl ?_
  refine xj_get C (v := .int (xi (S 50 0))) (fun _ h => List.mem_cons_of_mem _ (List.mem_append_right _ h)) 24 (eY_24 ad k S) rfl 6 (by decide) (List.mem_of_getElem? (i := 1) rfl) (fun _ _ h => h) rfl dX9_fix_3 ?_
  refine xj_iconst C dX9_fix_6 ?_
  refine xj_isub C dX9_fix_7 ?_
  obtain ⟨r1, hRr1, hM⟩ := xbd hM
  refine xj_callS C [.int (xi p1), .int (xi 0), .int (xi ((S 50 0) - 1))] [] 3 (c_X9_in hRr1) gX9_fix_X9_in rfl ⟨rfl, rfl⟩ hv_X9_in ⟨Nat.le_of_ble_eq_true rfl, Nat.le_of_ble_eq_true rfl⟩ rfl (Nat.le_of_ble_eq_true rfl) dX9_fix_8 ?_
  obtain ⟨g2, hM⟩ := xck_some hM
  refine xj_if_eq C (tgt := 24) dX9_fix_11 (by decide) g2 (fun c3 => ?_) (fun c3 => ?_)
  · have hM := xit hM c3
    refine xj_iconst C dX9_fix_24 ?_
    obtain rfl := Option.some.inj hM
    exact xj_zret (Or.inl rfl) C rfl dX9_fix_25
  · have hM := xif hM c3
    refine xj_iload_n C 2 dX9_fix_14 rfl rfl ?_
    refine xj_iconst C dX9_fix_15 ?_
    refine xj_bipush C (n := 15) (by decide) dX9_fix_16 ?_
    obtain ⟨r4, hRr4, hM⟩ := xbd hM
    refine xj_callS C [.int (xi p2), .int (xi (-1)), .int (xi 15)] [] 3 (c_X9_in hRr4) gX9_fix_X9_in rfl ⟨rfl, rfl⟩ hv_X9_in ⟨Nat.le_of_ble_eq_true rfl, Nat.le_of_ble_eq_true rfl⟩ rfl (Nat.le_of_ble_eq_true rfl) dX9_fix_18 ?_
    obtain ⟨g5, hM⟩ := xck_some hM
    refine xj_if_ne C (tgt := 26) dX9_fix_21 (by decide) g5 (fun c6 => ?_) (fun c6 => ?_)
    · have hM := xif hM c6
      refine xj_iconst C dX9_fix_26 ?_
      refine xj_istore_n C (L1 := [(3, .int (xi 0)), (0, .ref (ad 24)), (1, .int (xi p1)), (2, .int (xi p2))]) dX9_fix_27 rfl (by decide) rfl ?_
      obtain ⟨r16, hLr16, hM⟩ := xbd hM
      refine xj_loc C [1, 2, 3, 0] (L1 := [(0, .ref (ad 24)), (1, .int (xi p1)), (2, .int (xi p2)), (3, .int (xi 0))]) rfl ?_
      rcases r16 with t17 | y18
      · refine j_X9_fix_L28 C p1 p2 S _ _ _ hLr16 (fun tz ez => ?_) (fun tz ez => by cases ez)
        obtain rfl := Sum.inl.inj ez
        try dsimp only at hM
        refine xj_aload_n C 0 dX9_fix_63 rfl rfl ?_
        refine xj_get C (fun _ h => List.mem_cons_of_mem _ (List.mem_append_right _ h)) 24 (eY_24 ad k S) rfl 11 (by decide) (List.mem_of_getElem? (i := 2) rfl) (fun _ _ h => h) rfl dX9_fix_64 ?_
        refine xj_iload_n C 1 dX9_fix_67 rfl rfl ?_
        refine xj_iload_n C 2 dX9_fix_68 rfl rfl ?_
        obtain ⟨g19, hM⟩ := xck_some hM
        refine xj_iast C 10 S 10 (eY_10 ad k S) (Nat.le_of_ble_eq_true rfl) g19 (sY_10 ad k S p1 p2) dX9_fix_69 ?_
        refine xj_iconst C dX9_fix_70 ?_
        obtain rfl := Option.some.inj hM
        exact xj_zret (Or.inr rfl) C rfl dX9_fix_71
      · refine j_X9_fix_L28 C p1 p2 S _ _ _ hLr16 (fun tz ez => by cases ez) (fun tz ez => ?_)
        obtain rfl := Sum.inr.inj ez
        try dsimp only at hM
        obtain rfl := Option.some.inj hM
        rfl
    · have hM := xit hM c6
      refine xj_iconst C dX9_fix_24 ?_
      obtain rfl := Option.some.inj hM
      exact xj_zret (Or.inl rfl) C rfl dX9_fix_25
def rmX9_ring : Room := { frames := 1, cells := 0, slots := 0, locals := 22 }
theorem hv_X9_ring : yX9_ring.cls = RX9 ∧ yX9_ring.cls ≠ "java/lang/invoke/MethodHandle" ∧ yX9_ring.cls ≠ "java/lang/invoke/VarHandle" ∧ (parseMethodDescriptor yX9_ring.desc).map (fun d => d.parameters.length) = some 0 := by decide +kernel
def m_X9_ring_L4 : Nat → Int → Int → xS → Option (Int × xS)
  | 0, _, _, _ => none
  | n + 1, v1, v2, S => xck (xr v2 ∧ xr (S 50 0)) (if (S 50 0) ≤ v2 then some (v1, S) else xck (0 ≤ v2 ∧ v2 < 10) ((xck (xr (S 7 v2)) (if (S 7 v2) = 0 then some 1 else some 0)).bind (fun r4 => m_X9_ring_L4 n (v1 + ((xup S 23 v2 r4) 23 v2)) (v2 + 1) (xup S 23 v2 r4))))
def m_X9_ring_L71 (p1 : Int) (p2 : Int) (p3 : Int) (S : xS) : Nat → Int → Int → Option (Int)
  | 0, _, _ => none
  | n + 1, v4, v5 => xck (xr v5) (if 3 ≤ v5 then some v4 else xck (0 ≤ ((3 * p3) + v5) ∧ ((3 * p3) + v5) < 34) ((xck (xr v4) (if v4 = 0 then (m_X9_in (S 11 ((3 * p3) + v5)) 0 9).bind (fun r18 => xck (xr r18) (if r18 = 0 then some 0 else (m_X9_in (S 11 ((3 * p3) + v5)) 0 9).bind (fun r21 => (xck (xr r21) (if r21 = 0 then some 0 else some (S 11 ((3 * p3) + v5)))).bind (fun r22 => xck (0 ≤ r22 ∧ r22 < 10) (xck (xr (S 23 r22)) (if (S 23 r22) = 1 then some 1 else some 0)))))) else some 1)).bind (fun r15 => m_X9_ring_L71 p1 p2 p3 S n r15 (v5 + 1))))
def m_X9_ring_L57 (p2 : Int) : Nat → Int → Int → xS → Option (Int × xS)
  | 0, _, _, _ => none
  | n + 1, v1, v3, S => xck (xr v3 ∧ xr (S 50 0)) (if (S 50 0) ≤ v3 then some (v1, S) else (m_X9_ring_L71 v1 p2 v3 S 2000 0 0).bind (fun r28 => xck (0 ≤ v3 ∧ v3 < 10) ((xck (xr (S 23 v3)) (if (S 23 v3) = 1 then xck (xr r28) (if r28 = 0 then some ((v1 + (-1)), (xup S 23 v3 0)) else some (v1, S)) else some (v1, S))).bind (fun r30 => m_X9_ring_L57 p2 n r30.1 (v3 + 1) r30.2))))
def m_X9_ring_L49 : Nat → Int → Int → xS → Option (Int × xS)
  | 0, _, _, _ => none
  | n + 1, v1, v2, S => xck (xr v2) (if 10 ≤ v2 then some (v1, S) else (m_X9_ring_L57 v2 2000 v1 0 S).bind (fun r35 => m_X9_ring_L49 n r35.1 (v2 + 1) r35.2))
def m_X9_ring (S : xS) : Option (Int × xS) := (m_X9_ring_L4 2000 0 0 S).bind (fun r7 => (m_X9_ring_L49 2000 r7.1 0 r7.2).bind (fun r36 => xck (xr r36.1) (if r36.1 ≤ 0 then some (0, r36.2) else some (1, r36.2))))
set_option maxRecDepth 100000 in
set_option maxHeartbeats 4000000 in
theorem j_X9_ring_L4 {l : Launch} {D : va_G} {k : Nat → ClassId} {ad : Nat → Nat} {o : xO} {X : xX} (C : xC D k o X cX9_ring 7 RX9 wsX9_ring (some .boolean) rmX9_ring) : ∀ (n : Nat) (v1 : Int) (v2 : Int) (S : xS) (r : Int × xS), m_X9_ring_L4 n v1 v2 S = some r → (xJ l D k o X 7 47 [(0, .ref (ad 24)), (1, .int (xi r.1))] [] (wY ad k r.2)) → xJ l D k o X 7 4 [(0, .ref (ad 24)), (1, .int (xi v1)), (2, .int (xi v2))] [] (wY ad k S) := by
  intro n
  induction n with
  | zero =>
    intro v1 v2 S r hM
    cases hM
  | succ n ih =>
    intro v1 v2 S r hM K
    unfold m_X9_ring_L4 at hM
    refine xj_iload_n C 2 dX9_ring_4 rfl rfl ?_
    refine xj_aload_n C 0 dX9_ring_5 rfl rfl ?_
    refine xj_get C (v := .int (xi (S 50 0))) (fun _ h => List.mem_cons_of_mem _ (List.mem_append_right _ h)) 24 (eY_24 ad k S) rfl 6 (by decide) (List.mem_of_getElem? (i := 1) rfl) (fun _ _ h => h) rfl dX9_ring_6 ?_
    obtain ⟨g1, hM⟩ := xck_some hM
    refine xj_icmp_ge C (tgt := 47) dX9_ring_9 (by decide) ⟨g1.1, g1.2⟩ (fun c2 => ?_) (fun c2 => ?_)
    · have hM := xit hM c2
      obtain rfl := Option.some.inj hM
      refine xj_loc C [0, 1] (L1 := [(0, .ref (ad 24)), (1, .int (xi v1))]) rfl ?_
      exact K
    · have hM := xif hM c2
      refine xj_aload_n C 0 dX9_ring_12 rfl rfl ?_
      refine xj_get C (fun _ h => List.mem_cons_of_mem _ (List.mem_append_right _ h)) 24 (eY_24 ad k S) rfl 27 (by decide) (List.mem_of_getElem? (i := 2) rfl) (fun _ _ h => h) rfl dX9_ring_13 ?_
      refine xj_iload_n C 2 dX9_ring_16 rfl rfl ?_
      refine xj_aload_n C 0 dX9_ring_17 rfl rfl ?_
      refine xj_get C (fun _ h => List.mem_cons_of_mem _ (List.mem_append_right _ h)) 24 (eY_24 ad k S) rfl 8 (by decide) (List.mem_of_getElem? (i := 3) rfl) (fun _ _ h => h) rfl dX9_ring_18 ?_
      refine xj_iload_n C 2 dX9_ring_21 rfl rfl ?_
      obtain ⟨g3, hM⟩ := xck_some hM
      refine xj_zald C 7 S 7 (eY_7 ad k S) (Nat.le_of_ble_eq_true rfl) g3 dX9_ring_22 ?_
      obtain ⟨r4, hRr4, hM⟩ := xbd hM
      have Kr4 : xJ l D k o X 7 31 [(0, .ref (ad 24)), (1, .int (xi v1)), (2, .int (xi v2))] [.int (xi r4), .int (xi v2), .ref (ad 23)] (wY ad k S) := by
        refine xj_iast C 23 S 23 (eY_23 ad k S) (Nat.le_of_ble_eq_true rfl) g3 (sY_23 ad k S v2 r4) dX9_ring_31 ?_
        refine xj_iload_n C 1 dX9_ring_32 rfl rfl ?_
        refine xj_aload_n C 0 dX9_ring_33 rfl rfl ?_
        refine xj_get C (fun _ h => List.mem_cons_of_mem _ (List.mem_append_right _ h)) 24 (eY_24 ad k (xup S 23 v2 r4)) rfl 27 (by decide) (List.mem_of_getElem? (i := 2) rfl) (fun _ _ h => h) rfl dX9_ring_34 ?_
        refine xj_iload_n C 2 dX9_ring_37 rfl rfl ?_
        refine xj_iald C 23 (xup S 23 v2 r4) 23 (eY_23 ad k (xup S 23 v2 r4)) (Nat.le_of_ble_eq_true rfl) g3 dX9_ring_38 ?_
        refine xj_iadd C dX9_ring_39 ?_
        refine xj_istore_n C (L1 := [(1, .int (xi (v1 + ((xup S 23 v2 r4) 23 v2)))), (0, .ref (ad 24)), (2, .int (xi v2))]) dX9_ring_40 rfl (by decide) rfl ?_
        refine xj_iinc C 2 (L1 := [(2, .int (xi (v2 + 1))), (1, .int (xi (v1 + ((xup S 23 v2 r4) 23 v2)))), (0, .ref (ad 24))]) dX9_ring_41 rfl (by decide) rfl ?_
        refine xj_goto C (tgt := 4) dX9_ring_44 (by decide) ?_
        refine xj_loc C [2, 1, 0] (L1 := [(0, .ref (ad 24)), (1, .int (xi (v1 + ((xup S 23 v2 r4) 23 v2)))), (2, .int (xi (v2 + 1)))]) rfl ?_
        exact ih _ _ _ _ hM K
      clear hM
      have hM := hRr4
      obtain ⟨g5, hM⟩ := xck_some hM
      refine xj_if_eq C (tgt := 30) dX9_ring_23 (by decide) g5 (fun c6 => ?_) (fun c6 => ?_)
      · have hM := xit hM c6
        refine xj_iconst C dX9_ring_30 ?_
        obtain rfl := Option.some.inj hM
        exact Kr4
      · have hM := xif hM c6
        refine xj_iconst C dX9_ring_26 ?_
        refine xj_goto C (tgt := 31) dX9_ring_27 (by decide) ?_
        obtain rfl := Option.some.inj hM
        exact Kr4
set_option maxRecDepth 100000 in
set_option maxHeartbeats 4000000 in
theorem j_X9_ring_L71 {l : Launch} {D : va_G} {k : Nat → ClassId} {ad : Nat → Nat} {o : xO} {X : xX} (C : xC D k o X cX9_ring 7 RX9 wsX9_ring (some .boolean) rmX9_ring) (p1 : Int) (p2 : Int) (p3 : Int) (S : xS) : ∀ (n : Nat) (v4 : Int) (v5 : Int) (r : Int), m_X9_ring_L71 p1 p2 p3 S n v4 v5 = some r → (xJ l D k o X 7 145 [(0, .ref (ad 24)), (1, .int (xi p1)), (2, .int (xi p2)), (3, .int (xi p3)), (4, .int (xi r))] [] (wY ad k S)) → xJ l D k o X 7 71 [(0, .ref (ad 24)), (1, .int (xi p1)), (2, .int (xi p2)), (3, .int (xi p3)), (4, .int (xi v4)), (5, .int (xi v5))] [] (wY ad k S) := by
  intro n
  induction n with
  | zero =>
    intro v4 v5 r hM
    cases hM
  | succ n ih =>
    intro v4 v5 r hM K
    unfold m_X9_ring_L71 at hM
    refine xj_iload C 5 dX9_ring_71 rfl ?_
    refine xj_iconst C dX9_ring_73 ?_
    obtain ⟨g12, hM⟩ := xck_some hM
    refine xj_icmp_ge C (tgt := 145) dX9_ring_74 (by decide) ⟨g12, (by decide)⟩ (fun c13 => ?_) (fun c13 => ?_)
    · have hM := xit hM c13
      obtain rfl := Option.some.inj hM
      refine xj_loc C [0, 1, 2, 3, 4] (L1 := [(0, .ref (ad 24)), (1, .int (xi p1)), (2, .int (xi p2)), (3, .int (xi p3)), (4, .int (xi v4))]) rfl ?_
      exact K
    · have hM := xif hM c13
      refine xj_aload_n C 0 dX9_ring_77 rfl rfl ?_
      refine xj_get C (fun _ h => List.mem_cons_of_mem _ (List.mem_append_right _ h)) 24 (eY_24 ad k S) rfl 12 (by decide) (List.mem_of_getElem? (i := 4) rfl) (fun _ _ h => h) rfl dX9_ring_78 ?_
      refine xj_iconst C dX9_ring_81 ?_
      refine xj_iload_n C 3 dX9_ring_82 rfl rfl ?_
      refine xj_imul C dX9_ring_83 ?_
      refine xj_iload C 5 dX9_ring_84 rfl ?_
      refine xj_iadd C dX9_ring_86 ?_
      obtain ⟨g14, hM⟩ := xck_some hM
      refine xj_iald C 11 S 11 (eY_11 ad k S) (Nat.le_of_ble_eq_true rfl) g14 dX9_ring_87 ?_
      refine xj_istore C (L1 := [(6, .int (xi (S 11 ((3 * p3) + v5)))), (0, .ref (ad 24)), (1, .int (xi p1)), (2, .int (xi p2)), (3, .int (xi p3)), (4, .int (xi v4)), (5, .int (xi v5))]) dX9_ring_88 (by decide) rfl ?_
      refine xj_iload C 5 dX9_ring_90 rfl ?_
      obtain ⟨r15, hRr15, hM⟩ := xbd hM
      have Kr15 : xJ l D k o X 7 137 [(0, .ref (ad 24)), (1, .int (xi p1)), (2, .int (xi p2)), (3, .int (xi p3)), (5, .int (xi v5))] [.int (xi r15)] (wY ad k S) := by
        refine xj_istore C (L1 := [(4, .int (xi r15)), (0, .ref (ad 24)), (1, .int (xi p1)), (2, .int (xi p2)), (3, .int (xi p3)), (5, .int (xi v5))]) dX9_ring_137 (by decide) rfl ?_
        refine xj_iinc C 5 (L1 := [(5, .int (xi (v5 + 1))), (4, .int (xi r15)), (0, .ref (ad 24)), (1, .int (xi p1)), (2, .int (xi p2)), (3, .int (xi p3))]) dX9_ring_139 rfl (by decide) rfl ?_
        refine xj_goto C (tgt := 71) dX9_ring_142 (by decide) ?_
        refine xj_loc C [2, 3, 4, 5, 1, 0] (L1 := [(0, .ref (ad 24)), (1, .int (xi p1)), (2, .int (xi p2)), (3, .int (xi p3)), (4, .int (xi r15)), (5, .int (xi (v5 + 1)))]) rfl ?_
        exact ih _ _ _ hM K
      clear hM
      have hM := hRr15
      obtain ⟨g16, hM⟩ := xck_some hM
      refine xj_if_ne C (tgt := 132) dX9_ring_92 (by decide) g16 (fun c17 => ?_) (fun c17 => ?_)
      · have hM := xif hM c17
        refine xj_iconst C dX9_ring_132 ?_
        refine xj_goto C (tgt := 137) dX9_ring_133 (by decide) ?_
        obtain rfl := Option.some.inj hM
        refine xj_loc C [1, 2, 3, 4, 6] (L1 := [(0, .ref (ad 24)), (1, .int (xi p1)), (2, .int (xi p2)), (3, .int (xi p3)), (5, .int (xi v5))]) rfl ?_
        exact Kr15
      · have hM := xit hM c17
        refine xj_iload C 0 dX9_ring_95 rfl ?_
        refine xj_iconst C dX9_ring_97 ?_
        refine xj_bipush C (n := 9) (by decide) dX9_ring_98 ?_
        obtain ⟨r18, hRr18, hM⟩ := xbd hM
        refine xj_callS C [.int (xi (S 11 ((3 * p3) + v5))), .int (xi 0), .int (xi 9)] [] 3 (c_X9_in hRr18) gX9_ring_X9_in rfl ⟨rfl, rfl⟩ hv_X9_in ⟨Nat.le_of_ble_eq_true rfl, Nat.le_of_ble_eq_true rfl⟩ rfl (Nat.le_of_ble_eq_true rfl) dX9_ring_100 ?_
        obtain ⟨g19, hM⟩ := xck_some hM
        refine xj_if_eq C (tgt := 136) dX9_ring_103 (by decide) g19 (fun c20 => ?_) (fun c20 => ?_)
        · have hM := xit hM c20
          refine xj_iconst C dX9_ring_136 ?_
          obtain rfl := Option.some.inj hM
          refine xj_loc C [1, 2, 3, 4, 6] (L1 := [(0, .ref (ad 24)), (1, .int (xi p1)), (2, .int (xi p2)), (3, .int (xi p3)), (5, .int (xi v5))]) rfl ?_
          exact Kr15
        · have hM := xif hM c20
          refine xj_aload_n C 1 dX9_ring_106 rfl rfl ?_
          refine xj_get C (fun _ h => List.mem_cons_of_mem _ (List.mem_append_right _ h)) 24 (eY_24 ad k S) rfl 27 (by decide) (List.mem_of_getElem? (i := 2) rfl) (fun _ _ h => h) rfl dX9_ring_107 ?_
          refine xj_iload C 0 dX9_ring_110 rfl ?_
          refine xj_iconst C dX9_ring_112 ?_
          refine xj_bipush C (n := 9) (by decide) dX9_ring_113 ?_
          obtain ⟨r21, hRr21, hM⟩ := xbd hM
          refine xj_callS C [.int (xi (S 11 ((3 * p3) + v5))), .int (xi 0), .int (xi 9)] [.ref (ad 23)] 3 (c_X9_in hRr21) gX9_ring_X9_in rfl ⟨rfl, rfl⟩ hv_X9_in ⟨Nat.le_of_ble_eq_true rfl, Nat.le_of_ble_eq_true rfl⟩ rfl (Nat.le_of_ble_eq_true rfl) dX9_ring_115 ?_
          obtain ⟨r22, hRr22, hM⟩ := xbd hM
          have Kr22 : xJ l D k o X 7 127 [(0, .ref (ad 24)), (1, .int (xi p1)), (2, .int (xi p2)), (3, .int (xi p3)), (5, .int (xi v5))] [.int (xi r22), .ref (ad 23)] (wY ad k S) := by
            obtain ⟨g25, hM⟩ := xck_some hM
            refine xj_iald C 23 S 23 (eY_23 ad k S) (Nat.le_of_ble_eq_true rfl) g25 dX9_ring_127 ?_
            refine xj_iconst C dX9_ring_128 ?_
            obtain ⟨g26, hM⟩ := xck_some hM
            refine xj_icmp_ne C (tgt := 136) dX9_ring_129 (by decide) ⟨g26, (by decide)⟩ (fun c27 => ?_) (fun c27 => ?_)
            · have hM := xif hM c27
              refine xj_iconst C dX9_ring_136 ?_
              obtain rfl := Option.some.inj hM
              exact Kr15
            · have hM := xit hM c27
              refine xj_iconst C dX9_ring_132 ?_
              refine xj_goto C (tgt := 137) dX9_ring_133 (by decide) ?_
              obtain rfl := Option.some.inj hM
              exact Kr15
          clear hM
          have hM := hRr22
          obtain ⟨g23, hM⟩ := xck_some hM
          refine xj_if_eq C (tgt := 126) dX9_ring_118 (by decide) g23 (fun c24 => ?_) (fun c24 => ?_)
          · have hM := xit hM c24
            refine xj_iconst C dX9_ring_126 ?_
            obtain rfl := Option.some.inj hM
            refine xj_loc C [1, 2, 3, 4, 6] (L1 := [(0, .ref (ad 24)), (1, .int (xi p1)), (2, .int (xi p2)), (3, .int (xi p3)), (5, .int (xi v5))]) rfl ?_
            exact Kr22
          · have hM := xif hM c24
            refine xj_iload C 0 dX9_ring_121 rfl ?_
            refine xj_goto C (tgt := 127) dX9_ring_123 (by decide) ?_
            obtain rfl := Option.some.inj hM
            refine xj_loc C [1, 2, 3, 4, 6] (L1 := [(0, .ref (ad 24)), (1, .int (xi p1)), (2, .int (xi p2)), (3, .int (xi p3)), (5, .int (xi v5))]) rfl ?_
            exact Kr22
set_option maxRecDepth 100000 in
set_option maxHeartbeats 4000000 in
theorem j_X9_ring_L57 {l : Launch} {D : va_G} {k : Nat → ClassId} {ad : Nat → Nat} {o : xO} {X : xX} (C : xC D k o X cX9_ring 7 RX9 wsX9_ring (some .boolean) rmX9_ring) (p2 : Int) : ∀ (n : Nat) (v1 : Int) (v3 : Int) (S : xS) (r : Int × xS), m_X9_ring_L57 p2 n v1 v3 S = some r → (xJ l D k o X 7 176 [(0, .ref (ad 24)), (1, .int (xi r.1)), (2, .int (xi p2))] [] (wY ad k r.2)) → xJ l D k o X 7 57 [(0, .ref (ad 24)), (1, .int (xi v1)), (2, .int (xi p2)), (3, .int (xi v3))] [] (wY ad k S) := by
  intro n
  induction n with
  | zero =>
    intro v1 v3 S r hM
    cases hM
  | succ n ih =>
    intro v1 v3 S r hM K
    unfold m_X9_ring_L57 at hM
    refine xj_iload_n C 3 dX9_ring_57 rfl rfl ?_
    refine xj_aload_n C 0 dX9_ring_58 rfl rfl ?_
    refine xj_get C (v := .int (xi (S 50 0))) (fun _ h => List.mem_cons_of_mem _ (List.mem_append_right _ h)) 24 (eY_24 ad k S) rfl 6 (by decide) (List.mem_of_getElem? (i := 1) rfl) (fun _ _ h => h) rfl dX9_ring_59 ?_
    obtain ⟨g10, hM⟩ := xck_some hM
    refine xj_icmp_ge C (tgt := 176) dX9_ring_62 (by decide) ⟨g10.1, g10.2⟩ (fun c11 => ?_) (fun c11 => ?_)
    · have hM := xit hM c11
      obtain rfl := Option.some.inj hM
      refine xj_loc C [0, 1, 2] (L1 := [(0, .ref (ad 24)), (1, .int (xi v1)), (2, .int (xi p2))]) rfl ?_
      exact K
    · have hM := xif hM c11
      refine xj_iconst C dX9_ring_65 ?_
      refine xj_istore C (L1 := [(4, .int (xi 0)), (0, .ref (ad 24)), (1, .int (xi v1)), (2, .int (xi p2)), (3, .int (xi v3))]) dX9_ring_66 (by decide) rfl ?_
      refine xj_iconst C dX9_ring_68 ?_
      refine xj_istore C (L1 := [(5, .int (xi 0)), (4, .int (xi 0)), (0, .ref (ad 24)), (1, .int (xi v1)), (2, .int (xi p2)), (3, .int (xi v3))]) dX9_ring_69 (by decide) rfl ?_
      obtain ⟨r28, hLr28, hM⟩ := xbd hM
      refine xj_loc C [2, 3, 4, 5, 1, 0] (L1 := [(0, .ref (ad 24)), (1, .int (xi v1)), (2, .int (xi p2)), (3, .int (xi v3)), (4, .int (xi 0)), (5, .int (xi 0))]) rfl ?_
      refine j_X9_ring_L71 C v1 p2 v3 S _ _ _ _ hLr28 ?_
      refine xj_aload_n C 0 dX9_ring_145 rfl rfl ?_
      refine xj_get C (fun _ h => List.mem_cons_of_mem _ (List.mem_append_right _ h)) 24 (eY_24 ad k S) rfl 27 (by decide) (List.mem_of_getElem? (i := 2) rfl) (fun _ _ h => h) rfl dX9_ring_146 ?_
      refine xj_iload_n C 3 dX9_ring_149 rfl rfl ?_
      obtain ⟨g29, hM⟩ := xck_some hM
      refine xj_iald C 23 S 23 (eY_23 ad k S) (Nat.le_of_ble_eq_true rfl) g29 dX9_ring_150 ?_
      refine xj_iconst C dX9_ring_151 ?_
      obtain ⟨r30, hRr30, hM⟩ := xbd hM
      have Kr30 : xJ l D k o X 7 170 [(0, .ref (ad 24)), (1, .int (xi r30.1)), (2, .int (xi p2)), (3, .int (xi v3))] [] (wY ad k r30.2) := by
        refine xj_iinc C 3 (L1 := [(3, .int (xi (v3 + 1))), (0, .ref (ad 24)), (1, .int (xi r30.1)), (2, .int (xi p2))]) dX9_ring_170 rfl (by decide) rfl ?_
        refine xj_goto C (tgt := 57) dX9_ring_173 (by decide) ?_
        refine xj_loc C [1, 2, 3, 0] (L1 := [(0, .ref (ad 24)), (1, .int (xi r30.1)), (2, .int (xi p2)), (3, .int (xi (v3 + 1)))]) rfl ?_
        exact ih _ _ _ _ hM K
      clear hM
      have hM := hRr30
      obtain ⟨g31, hM⟩ := xck_some hM
      refine xj_icmp_ne C (tgt := 170) dX9_ring_152 (by decide) ⟨g31, (by decide)⟩ (fun c32 => ?_) (fun c32 => ?_)
      · have hM := xif hM c32
        obtain rfl := Option.some.inj hM
        refine xj_loc C [0, 1, 2, 3] (L1 := [(0, .ref (ad 24)), (1, .int (xi v1)), (2, .int (xi p2)), (3, .int (xi v3))]) rfl ?_
        exact Kr30
      · have hM := xit hM c32
        refine xj_iload C 4 dX9_ring_155 rfl ?_
        obtain ⟨g33, hM⟩ := xck_some hM
        refine xj_if_ne C (tgt := 170) dX9_ring_157 (by decide) g33 (fun c34 => ?_) (fun c34 => ?_)
        · have hM := xif hM c34
          obtain rfl := Option.some.inj hM
          refine xj_loc C [0, 1, 2, 3] (L1 := [(0, .ref (ad 24)), (1, .int (xi v1)), (2, .int (xi p2)), (3, .int (xi v3))]) rfl ?_
          exact Kr30
        · have hM := xit hM c34
          refine xj_aload_n C 0 dX9_ring_160 rfl rfl ?_
          refine xj_get C (fun _ h => List.mem_cons_of_mem _ (List.mem_append_right _ h)) 24 (eY_24 ad k S) rfl 27 (by decide) (List.mem_of_getElem? (i := 2) rfl) (fun _ _ h => h) rfl dX9_ring_161 ?_
          refine xj_iload_n C 3 dX9_ring_164 rfl rfl ?_
          refine xj_iconst C dX9_ring_165 ?_
          refine xj_iast C 23 S 23 (eY_23 ad k S) (Nat.le_of_ble_eq_true rfl) g29 (sY_23 ad k S v3 0) dX9_ring_166 ?_
          refine xj_iinc C 1 (L1 := [(1, .int (xi (v1 + (-1)))), (0, .ref (ad 24)), (2, .int (xi p2)), (3, .int (xi v3)), (4, .int (xi r28))]) dX9_ring_167 rfl (by decide) rfl ?_
          obtain rfl := Option.some.inj hM
          refine xj_loc C [1, 0, 2, 3] (L1 := [(0, .ref (ad 24)), (1, .int (xi (v1 + (-1)))), (2, .int (xi p2)), (3, .int (xi v3))]) rfl ?_
          exact Kr30
set_option maxRecDepth 100000 in
set_option maxHeartbeats 4000000 in
theorem j_X9_ring_L49 {l : Launch} {D : va_G} {k : Nat → ClassId} {ad : Nat → Nat} {o : xO} {X : xX} (C : xC D k o X cX9_ring 7 RX9 wsX9_ring (some .boolean) rmX9_ring) : ∀ (n : Nat) (v1 : Int) (v2 : Int) (S : xS) (r : Int × xS), m_X9_ring_L49 n v1 v2 S = some r → (xJ l D k o X 7 182 [(1, .int (xi r.1))] [] (wY ad k r.2)) → xJ l D k o X 7 49 [(0, .ref (ad 24)), (1, .int (xi v1)), (2, .int (xi v2))] [] (wY ad k S) := by
  intro n
  induction n with
  | zero =>
    intro v1 v2 S r hM
    cases hM
  | succ n ih =>
    intro v1 v2 S r hM K
    unfold m_X9_ring_L49 at hM
    refine xj_iload_n C 2 dX9_ring_49 rfl rfl ?_
    refine xj_bipush C (n := 10) (by decide) dX9_ring_50 ?_
    obtain ⟨g8, hM⟩ := xck_some hM
    refine xj_icmp_ge C (tgt := 182) dX9_ring_52 (by decide) ⟨g8, (by decide)⟩ (fun c9 => ?_) (fun c9 => ?_)
    · have hM := xit hM c9
      obtain rfl := Option.some.inj hM
      refine xj_loc C [1] (L1 := [(1, .int (xi v1))]) rfl ?_
      exact K
    · have hM := xif hM c9
      refine xj_iconst C dX9_ring_55 ?_
      refine xj_istore_n C (L1 := [(3, .int (xi 0)), (0, .ref (ad 24)), (1, .int (xi v1)), (2, .int (xi v2))]) dX9_ring_56 rfl (by decide) rfl ?_
      obtain ⟨r35, hLr35, hM⟩ := xbd hM
      refine xj_loc C [1, 2, 3, 0] (L1 := [(0, .ref (ad 24)), (1, .int (xi v1)), (2, .int (xi v2)), (3, .int (xi 0))]) rfl ?_
      refine j_X9_ring_L57 C v2 _ _ _ _ _ hLr35 ?_
      refine xj_iinc C 2 (L1 := [(2, .int (xi (v2 + 1))), (0, .ref (ad 24)), (1, .int (xi r35.1))]) dX9_ring_176 rfl (by decide) rfl ?_
      refine xj_goto C (tgt := 49) dX9_ring_179 (by decide) ?_
      refine xj_loc C [1, 2, 0] (L1 := [(0, .ref (ad 24)), (1, .int (xi r35.1)), (2, .int (xi (v2 + 1)))]) rfl ?_
      exact ih _ _ _ _ hM K
set_option maxRecDepth 100000 in
set_option maxHeartbeats 4000000 in
theorem c_X9_ring {l : Launch} {D : va_G} {k : Nat → ClassId} {ad : Nat → Nat} {S : xS} {res : Int × xS} (hM : m_X9_ring S = some res) : xM l yX9_ring wsX9_ring rmX9_ring D k [.ref (ad 24)] (wY ad k S) (some (.int (xi res.1))) (wY ad k res.2) := by
  refine xM_of (ret := (some .boolean)) (by decide) rfl (Nat.le_of_ble_eq_true rfl) (fun X C => ?_)
  have C : xC D k (xo X D k (some (.int (xi res.1))) (wY ad k res.2)) X cX9_ring 7 RX9 wsX9_ring (some .boolean) rmX9_ring := C
  show xJ l D k (xo X D k (some (.int (xi res.1))) (wY ad k res.2)) X 7 0 [(0, .ref (ad 24))] [] (wY ad k S)
  unfold m_X9_ring at hM
  refine xj_iconst C dX9_ring_0 ?_
  refine xj_istore_n C (L1 := [(1, .int (xi 0)), (0, .ref (ad 24))]) dX9_ring_1 rfl (by decide) rfl ?_
  refine xj_iconst C dX9_ring_2 ?_
  refine xj_istore_n C (L1 := [(2, .int (xi 0)), (1, .int (xi 0)), (0, .ref (ad 24))]) dX9_ring_3 rfl (by decide) rfl ?_
  obtain ⟨r7, hLr7, hM⟩ := xbd hM
  refine xj_loc C [2, 1, 0] (L1 := [(0, .ref (ad 24)), (1, .int (xi 0)), (2, .int (xi 0))]) rfl ?_
  refine j_X9_ring_L4 C _ _ _ _ _ hLr7 ?_
  refine xj_iconst C dX9_ring_47 ?_
  refine xj_istore_n C (L1 := [(2, .int (xi 0)), (0, .ref (ad 24)), (1, .int (xi r7.1))]) dX9_ring_48 rfl (by decide) rfl ?_
  obtain ⟨r36, hLr36, hM⟩ := xbd hM
  refine xj_loc C [1, 2, 0] (L1 := [(0, .ref (ad 24)), (1, .int (xi r7.1)), (2, .int (xi 0))]) rfl ?_
  refine j_X9_ring_L49 C _ _ _ _ _ hLr36 ?_
  refine xj_iload_n C 0 dX9_ring_182 rfl rfl ?_
  obtain ⟨g37, hM⟩ := xck_some hM
  refine xj_if_le C (tgt := 190) dX9_ring_183 (by decide) g37 (fun c38 => ?_) (fun c38 => ?_)
  · have hM := xit hM c38
    refine xj_iconst C dX9_ring_190 ?_
    obtain rfl := Option.some.inj hM
    exact xj_zret (Or.inl rfl) C rfl dX9_ring_191
  · have hM := xif hM c38
    refine xj_iconst C dX9_ring_186 ?_
    refine xj_goto C (tgt := 191) dX9_ring_187 (by decide) ?_
    obtain rfl := Option.some.inj hM
    exact xj_zret (Or.inr rfl) C rfl dX9_ring_191
