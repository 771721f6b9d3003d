/-! mirrors and contracts (by program: wip/whole/gen.py, mkparts.py) -/
def rmX7_add : Room := { frames := 0, cells := 0, slots := 0, locals := 0 }
theorem hv_X7_add : yX7_add.cls = RX7 ∧ yX7_add.cls ≠ "java/lang/invoke/MethodHandle" ∧ yX7_add.cls ≠ "java/lang/invoke/VarHandle" ∧ (parseMethodDescriptor yX7_add.desc).map (fun d => d.parameters.length) = some 1 := by decide +kernel
def m_X7_add (p1 : Int) (S : xS) : Option (xS) := xck (xr p1) (if p1 < 0 then some S else (if 148 ≤ p1 then some S else xck (0 ≤ p1 ∧ p1 < 148) (xck (xr (S 25 p1)) (if (S 25 p1) = 0 then xck (xr (S 54 0)) (if (S 54 0) < 148 then xck ((0 ≤ p1 ∧ p1 < 148)) (xck (0 ≤ ((S 53 0) + (S 54 0)) ∧ ((S 53 0) + (S 54 0)) ≤ 2147483647) (xck (0 ≤ (((S 53 0) + (S 54 0)) % 148) ∧ (((S 53 0) + (S 54 0)) % 148) < 148) (some (xup (xup (xup S 25 p1 1) 24 (((S 53 0) + (S 54 0)) % 148) p1) 54 0 ((S 54 0) + 1))))) else some S) else some S))))
set_option maxRecDepth 100000 in
set_option maxHeartbeats 4000000 in
theorem c_X7_add {l : Launch} {D : va_G} {k : Nat → ClassId} {ad : Nat → Nat} {S : xS} {p1 : Int} {res : xS} (hM : m_X7_add p1 S = some res) : xM l yX7_add wsX7_add rmX7_add D k [.ref (ad 42), .int (xi p1)] (wX ad k S) none (wX ad k res) := by
  refine xM_of (ret := none) (by decide) rfl (Nat.le_of_ble_eq_true rfl) (fun X C => ?_)
  have C : xC D k (xo X D k none (wX ad k res)) X cX7_add 2 RX7 wsX7_add none rmX7_add := C
  show xJ l D k (xo X D k none (wX ad k res)) X 2 0 [(0, .ref (ad 42)), (1, .int (xi p1))] [] (wX ad k S)
  unfold m_X7_add at hM
  refine xj_iload_n C 1 dX7_add_0 rfl rfl ?_
  obtain ⟨g1, hM⟩ := xck_some hM
  refine xj_if_lt C (tgt := 30) dX7_add_1 (by decide) g1 (fun c2 => ?_) (fun c2 => ?_)
  · have hM := xit hM c2
    obtain rfl := Option.some.inj hM
    exact xj_vret C rfl dX7_add_30
  · have hM := xif hM c2
    refine xj_iload_n C 1 dX7_add_4 rfl rfl ?_
    refine xj_sipush C (n := 148) (by decide) dX7_add_5 ?_
    refine xj_icmp_ge C (tgt := 30) dX7_add_8 (by decide) ⟨g1, (by decide)⟩ (fun c3 => ?_) (fun c3 => ?_)
    · have hM := xit hM c3
      obtain rfl := Option.some.inj hM
      exact xj_vret C rfl dX7_add_30
    · have hM := xif hM c3
      refine xj_aload_n C 0 dX7_add_11 rfl rfl ?_
      refine xj_get C (fun _ h => List.mem_cons_of_mem _ (List.mem_append_right _ h)) 42 (eX_42 ad k S) rfl 1 (by decide) (List.mem_of_getElem? (i := 1) rfl) (fun _ _ h => h) rfl dX7_add_12 ?_
      refine xj_iload_n C 1 dX7_add_15 rfl rfl ?_
      obtain ⟨g4, hM⟩ := xck_some hM
      refine xj_zald C 25 S 25 (eX_25 ad k S) (Nat.le_of_ble_eq_true rfl) g4 dX7_add_16 ?_
      obtain ⟨g5, hM⟩ := xck_some hM
      refine xj_if_ne C (tgt := 30) dX7_add_17 (by decide) g5 (fun c6 => ?_) (fun c6 => ?_)
      · have hM := xif hM c6
        obtain rfl := Option.some.inj hM
        exact xj_vret C rfl dX7_add_30
      · have hM := xit hM c6
        refine xj_aload_n C 0 dX7_add_20 rfl rfl ?_
        refine xj_get C (v := .int (xi (S 54 0))) (fun _ h => List.mem_cons_of_mem _ (List.mem_append_right _ h)) 42 (eX_42 ad k S) rfl 3 (by decide) (List.mem_of_getElem? (i := 2) rfl) (fun _ _ h => h) rfl dX7_add_21 ?_
        refine xj_sipush C (n := 148) (by decide) dX7_add_24 ?_
        obtain ⟨g7, hM⟩ := xck_some hM
        refine xj_icmp_lt C (tgt := 31) dX7_add_27 (by decide) ⟨g7, (by decide)⟩ (fun c8 => ?_) (fun c8 => ?_)
        · have hM := xit hM c8
          refine xj_aload_n C 0 dX7_add_31 rfl rfl ?_
          refine xj_get C (fun _ h => List.mem_cons_of_mem _ (List.mem_append_right _ h)) 42 (eX_42 ad k S) rfl 1 (by decide) (List.mem_of_getElem? (i := 1) rfl) (fun _ _ h => h) rfl dX7_add_32 ?_
          refine xj_iload_n C 1 dX7_add_35 rfl rfl ?_
          refine xj_iconst C dX7_add_36 ?_
          obtain ⟨g9, hM⟩ := xck_some hM
          refine xj_zast C 25 S 25 (eX_25 ad k S) (Nat.le_of_ble_eq_true rfl) (Or.inr rfl) g9 (sX_25 ad k S p1 1) dX7_add_37 ?_
          refine xj_aload_n C 0 dX7_add_38 rfl rfl ?_
          refine xj_get C (fun _ h => List.mem_cons_of_mem _ (List.mem_append_right _ h)) 42 (eX_42 ad k (xup S 25 p1 1)) rfl 0 (by decide) (List.mem_of_getElem? (i := 3) rfl) (fun _ _ h => h) rfl dX7_add_39 ?_
          refine xj_aload_n C 0 dX7_add_42 rfl rfl ?_
          refine xj_get C (v := .int (xi (S 53 0))) (fun _ h => List.mem_cons_of_mem _ (List.mem_append_right _ h)) 42 (eX_42 ad k (xup S 25 p1 1)) rfl 2 (by decide) (List.mem_of_getElem? (i := 4) rfl) (fun _ _ h => h) rfl dX7_add_43 ?_
          refine xj_aload_n C 0 dX7_add_46 rfl rfl ?_
          refine xj_get C (v := .int (xi (S 54 0))) (fun _ h => List.mem_cons_of_mem _ (List.mem_append_right _ h)) 42 (eX_42 ad k (xup S 25 p1 1)) rfl 3 (by decide) (List.mem_of_getElem? (i := 2) rfl) (fun _ _ h => h) rfl dX7_add_47 ?_
          refine xj_iadd C dX7_add_50 ?_
          refine xj_sipush C (n := 148) (by decide) dX7_add_51 ?_
          obtain ⟨g10, hM⟩ := xck_some hM
          refine xj_irem C ⟨g10.1, g10.2, by decide, by decide⟩ dX7_add_54 ?_
          refine xj_iload_n C 1 dX7_add_55 rfl rfl ?_
          obtain ⟨g11, hM⟩ := xck_some hM
          refine xj_iast C 24 (xup S 25 p1 1) 24 (eX_24 ad k (xup S 25 p1 1)) (Nat.le_of_ble_eq_true rfl) g11 (sX_24 ad k (xup S 25 p1 1) (((S 53 0) + (S 54 0)) % 148) p1) dX7_add_56 ?_
          refine xj_aload_n C 0 dX7_add_57 rfl rfl ?_
          refine xj_dup C rfl dX7_add_58 ?_
          refine xj_get C (v := .int (xi (S 54 0))) (fun _ h => List.mem_cons_of_mem _ (List.mem_append_right _ h)) 42 (eX_42 ad k (xup (xup S 25 p1 1) 24 (((S 53 0) + (S 54 0)) % 148) p1)) rfl 3 (by decide) (List.mem_of_getElem? (i := 2) rfl) (fun _ _ h => h) rfl dX7_add_59 ?_
          refine xj_iconst C dX7_add_62 ?_
          refine xj_iadd C dX7_add_63 ?_
          refine xj_put C (fun _ h => List.mem_cons_of_mem _ (List.mem_append_right _ h)) tyX7 tyX7_ok nmX7 42 (eX_42 ad k (xup (xup S 25 p1 1) 24 (((S 53 0) + (S 54 0)) % 148) p1)) rfl 3 (by decide) (List.mem_of_getElem? (i := 2) rfl) (fun _ _ h => h) rfl (tyX7_ok 3 (by decide)) (Nat.le_of_ble_eq_true rfl) (sX_54 ad k (xup (xup S 25 p1 1) 24 (((S 53 0) + (S 54 0)) % 148) p1) ((S 54 0) + 1)) dX7_add_64 ?_
          obtain rfl := Option.some.inj hM
          exact xj_vret C rfl dX7_add_67
        · have hM := xif hM c8
          obtain rfl := Option.some.inj hM
          exact xj_vret C rfl dX7_add_30
def rmX7_isEmpty : Room := { frames := 0, cells := 0, slots := 0, locals := 0 }
theorem hv_X7_isEmpty : yX7_isEmpty.cls = RX7 ∧ yX7_isEmpty.cls ≠ "java/lang/invoke/MethodHandle" ∧ yX7_isEmpty.cls ≠ "java/lang/invoke/VarHandle" ∧ (parseMethodDescriptor yX7_isEmpty.desc).map (fun d => d.parameters.length) = some 0 := by decide +kernel
def m_X7_isEmpty (S : xS) : Option (Int) := xck (xr (S 54 0)) (if (S 54 0) = 0 then some 1 else some 0)
set_option maxRecDepth 100000 in
set_option maxHeartbeats 4000000 in
theorem c_X7_isEmpty {l : Launch} {D : va_G} {k : Nat → ClassId} {ad : Nat → Nat} {S : xS} {res : Int} (hM : m_X7_isEmpty S = some res) : xM l yX7_isEmpty wsX7_isEmpty rmX7_isEmpty D k [.ref (ad 42)] (wX ad k S) (some (.int (xi res))) (wX ad k S) := by
  refine xM_of (ret := (some .boolean)) (by decide) rfl (Nat.le_of_ble_eq_true rfl) (fun X C => ?_)
  have C : xC D k (xo X D k (some (.int (xi res))) (wX ad k S)) X cX7_isEmpty 1 RX7 wsX7_isEmpty (some .boolean) rmX7_isEmpty := C
  show xJ l D k (xo X D k (some (.int (xi res))) (wX ad k S)) X 1 0 [(0, .ref (ad 42))] [] (wX ad k S)
  unfold m_X7_isEmpty at hM
  refine xj_aload_n C 0 dX7_isEmpty_0 rfl rfl ?_
  refine xj_get C (v := .int (xi (S 54 0))) (fun _ h => List.mem_cons_of_mem _ (List.mem_append_right _ h)) 42 (eX_42 ad k S) rfl 3 (by decide) (List.mem_of_getElem? (i := 1) rfl) (fun _ _ h => h) rfl dX7_isEmpty_1 ?_
  obtain ⟨g1, hM⟩ := xck_some hM
  refine xj_if_ne C (tgt := 11) dX7_isEmpty_4 (by decide) g1 (fun c2 => ?_) (fun c2 => ?_)
  · have hM := xif hM c2
    refine xj_iconst C dX7_isEmpty_11 ?_
    obtain rfl := Option.some.inj hM
    exact xj_zret (Or.inl rfl) C rfl dX7_isEmpty_12
  · have hM := xit hM c2
    refine xj_iconst C dX7_isEmpty_7 ?_
    refine xj_goto C (tgt := 12) dX7_isEmpty_8 (by decide) ?_
    obtain rfl := Option.some.inj hM
    exact xj_zret (Or.inr rfl) C rfl dX7_isEmpty_12
def rmX7_take : Room := { frames := 0, cells := 0, slots := 0, locals := 0 }
theorem hv_X7_take : yX7_take.cls = RX7 ∧ yX7_take.cls ≠ "java/lang/invoke/MethodHandle" ∧ yX7_take.cls ≠ "java/lang/invoke/VarHandle" ∧ (parseMethodDescriptor yX7_take.desc).map (fun d => d.parameters.length) = some 0 := by decide +kernel
def m_X7_take (S : xS) : Option (Int × xS) := xck (xr (S 54 0)) (if (S 54 0) = 0 then some ((-1), S) else xck (0 ≤ (S 53 0) ∧ (S 53 0) < 148) (xck ((0 ≤ (S 24 (S 53 0)) ∧ (S 24 (S 53 0)) < 148)) (xck (0 ≤ ((S 53 0) + 1) ∧ ((S 53 0) + 1) ≤ 2147483647) (some ((S 24 (S 53 0)), (xup (xup (xup S 25 (S 24 (S 53 0)) 0) 53 0 (((S 53 0) + 1) % 148)) 54 0 ((S 54 0) - 1)))))))
set_option maxRecDepth 100000 in
set_option maxHeartbeats 4000000 in
theorem c_X7_take {l : Launch} {D : va_G} {k : Nat → ClassId} {ad : Nat → Nat} {S : xS} {res : Int × xS} (hM : m_X7_take S = some res) : xM l yX7_take wsX7_take rmX7_take D k [.ref (ad 42)] (wX ad k S) (some (.int (xi res.1))) (wX ad k res.2) := by
  refine xM_of (ret := (some .int)) (by decide) rfl (Nat.le_of_ble_eq_true rfl) (fun X C => ?_)
  have C : xC D k (xo X D k (some (.int (xi res.1))) (wX ad k res.2)) X cX7_take 2 RX7 wsX7_take (some .int) rmX7_take := C
  show xJ l D k (xo X D k (some (.int (xi res.1))) (wX ad k res.2)) X 2 0 [(0, .ref (ad 42))] [] (wX ad k S)
  unfold m_X7_take at hM
  refine xj_aload_n C 0 dX7_take_0 rfl rfl ?_
  refine xj_get C (v := .int (xi (S 54 0))) (fun _ h => List.mem_cons_of_mem _ (List.mem_append_right _ h)) 42 (eX_42 ad k S) rfl 3 (by decide) (List.mem_of_getElem? (i := 1) rfl) (fun _ _ h => h) rfl dX7_take_1 ?_
  obtain ⟨g1, hM⟩ := xck_some hM
  refine xj_if_ne C (tgt := 9) dX7_take_4 (by decide) g1 (fun c2 => ?_) (fun c2 => ?_)
  · have hM := xif hM c2
    refine xj_aload_n C 0 dX7_take_9 rfl rfl ?_
    refine xj_get C (fun _ h => List.mem_cons_of_mem _ (List.mem_append_right _ h)) 42 (eX_42 ad k S) rfl 0 (by decide) (List.mem_of_getElem? (i := 2) rfl) (fun _ _ h => h) rfl dX7_take_10 ?_
    refine xj_aload_n C 0 dX7_take_13 rfl rfl ?_
    refine xj_get C (v := .int (xi (S 53 0))) (fun _ h => List.mem_cons_of_mem _ (List.mem_append_right _ h)) 42 (eX_42 ad k S) rfl 2 (by decide) (List.mem_of_getElem? (i := 3) rfl) (fun _ _ h => h) rfl dX7_take_14 ?_
    obtain ⟨g3, hM⟩ := xck_some hM
    refine xj_iald C 24 S 24 (eX_24 ad k S) (Nat.le_of_ble_eq_true rfl) g3 dX7_take_17 ?_
    refine xj_istore_n C (L1 := [(1, .int (xi (S 24 (S 53 0)))), (0, .ref (ad 42))]) dX7_take_18 rfl (by decide) rfl ?_
    refine xj_aload_n C 1 dX7_take_19 rfl rfl ?_
    refine xj_get C (fun _ h => List.mem_cons_of_mem _ (List.mem_append_right _ h)) 42 (eX_42 ad k S) rfl 1 (by decide) (List.mem_of_getElem? (i := 4) rfl) (fun _ _ h => h) rfl dX7_take_20 ?_
    refine xj_iload_n C 0 dX7_take_23 rfl rfl ?_
    refine xj_iconst C dX7_take_24 ?_
    obtain ⟨g4, hM⟩ := xck_some hM
    refine xj_zast C 25 S 25 (eX_25 ad k S) (Nat.le_of_ble_eq_true rfl) (Or.inl rfl) g4 (sX_25 ad k S (S 24 (S 53 0)) 0) dX7_take_25 ?_
    refine xj_aload_n C 1 dX7_take_26 rfl rfl ?_
    refine xj_aload_n C 1 dX7_take_27 rfl rfl ?_
    refine xj_get C (v := .int (xi (S 53 0))) (fun _ h => List.mem_cons_of_mem _ (List.mem_append_right _ h)) 42 (eX_42 ad k (xup S 25 (S 24 (S 53 0)) 0)) rfl 2 (by decide) (List.mem_of_getElem? (i := 3) rfl) (fun _ _ h => h) rfl dX7_take_28 ?_
    refine xj_iconst C dX7_take_31 ?_
    refine xj_iadd C dX7_take_32 ?_
    refine xj_sipush C (n := 148) (by decide) dX7_take_33 ?_
    obtain ⟨g5, hM⟩ := xck_some hM
    refine xj_irem C ⟨g5.1, g5.2, by decide, by decide⟩ dX7_take_36 ?_
    refine xj_put C (fun _ h => List.mem_cons_of_mem _ (List.mem_append_right _ h)) tyX7 tyX7_ok nmX7 42 (eX_42 ad k (xup S 25 (S 24 (S 53 0)) 0)) rfl 2 (by decide) (List.mem_of_getElem? (i := 3) rfl) (fun _ _ h => h) rfl (tyX7_ok 2 (by decide)) (Nat.le_of_ble_eq_true rfl) (sX_53 ad k (xup S 25 (S 24 (S 53 0)) 0) (((S 53 0) + 1) % 148)) dX7_take_37 ?_
    refine xj_aload_n C 1 dX7_take_40 rfl rfl ?_
    refine xj_dup C rfl dX7_take_41 ?_
    refine xj_get C (v := .int (xi (S 54 0))) (fun _ h => List.mem_cons_of_mem _ (List.mem_append_right _ h)) 42 (eX_42 ad k (xup (xup S 25 (S 24 (S 53 0)) 0) 53 0 (((S 53 0) + 1) % 148))) rfl 3 (by decide) (List.mem_of_getElem? (i := 1) rfl) (fun _ _ h => h) rfl dX7_take_42 ?_
    refine xj_iconst C dX7_take_45 ?_
    refine xj_isub C dX7_take_46 ?_
    refine xj_put C (fun _ h => List.mem_cons_of_mem _ (List.mem_append_right _ h)) tyX7 tyX7_ok nmX7 42 (eX_42 ad k (xup (xup S 25 (S 24 (S 53 0)) 0) 53 0 (((S 53 0) + 1) % 148))) rfl 3 (by decide) (List.mem_of_getElem? (i := 1) rfl) (fun _ _ h => h) rfl (tyX7_ok 3 (by decide)) (Nat.le_of_ble_eq_true rfl) (sX_54 ad k (xup (xup S 25 (S 24 (S 53 0)) 0) 53 0 (((S 53 0) + 1) % 148)) ((S 54 0) - 1)) dX7_take_47 ?_
    refine xj_iload_n C 0 dX7_take_50 rfl rfl ?_
    obtain rfl := Option.some.inj hM
    exact xj_iret C rfl dX7_take_51
  · have hM := xit hM c2
    refine xj_iconst C dX7_take_7 ?_
    obtain rfl := Option.some.inj hM
    exact xj_iret C rfl dX7_take_8
