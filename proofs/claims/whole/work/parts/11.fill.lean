/-! Arrays.fill over an array of ints of any world -/
theorem xj_alen {l : Launch} {D : va_G} {k : Nat → ClassId} {o : xO} {X : xX} {cc : ByteArray} {nL : Nat} {own : String} {Ts : List Cond} {ret : Option FieldType} {rm : Room} (C : xC D k o X cc nL own Ts ret rm) {pc : Nat} {L : List (Nat × Value)} {st : List Value} {ws : va_W} (q0 : Nat) {a n : Nat} {f : Nat → Int32} (ha : ws[q0]? = some (a, .inl (k 0, n, .inl f))) (hd : decode cc pc = .ok (.arraylength, 1)) (kk : xJ l D k o X nL (pc + 1) L (.int (xi (n : Int)) :: st) ws) : xJ l D k o X nL pc L (.ref a :: st) ws := by
  obtain ⟨p, e, R, s, m, args, below, meth, c, A⟩ := X
  obtain ⟨⟨hx, hb, hml, hown, hts⟩, hK, hA, hr, hlk, hR, ho⟩ := C
  intro H locs ls hP hD hS hl
  exact va_alen hx hb hK hP q0 0 ha (ty := .int) rfl (xi_nat n).symm hd (kk H locs ls hP hD hS hl)
theorem xj_iastG {l : Launch} {D : va_G} {k : Nat → ClassId} {o : xO} {X : xX} {cc : ByteArray} {nL : Nat} {own : String} {Ts : List Cond} {ret : Option FieldType} {rm : Room} (C : xC D k o X cc nL own Ts ret rm) {pc : Nat} {L : List (Nat × Value)} {st : List Value} {ws : va_W} (q0 : Nat) {a n : Nat} {f : Nat → Int32} {ws1 : va_W} (ha : ws[q0]? = some (a, .inl (k 0, n, .inl f))) (hn : n < 2147483648) {i : Int} {v : Int32} (hg : 0 ≤ i ∧ i < (n : Int)) (hw : ws.set q0 (a, .inl (k 0, n, .inl (upd f i.toNat v))) = ws1) (hd : decode cc pc = .ok (.iastore, 1)) (kk : xJ l D k o X nL (pc + 1) L st ws1) : xJ l D k o X nL pc L (.int v :: .int (xi i) :: .ref a :: st) ws := by
  obtain ⟨p, e, R, s, m, args, below, meth, c, A⟩ := X
  obtain ⟨⟨hx, hb, hml, hown, hts⟩, hK, hA, hr, hlk, hR, ho⟩ := C
  intro H locs ls hP hD hS hl
  refine va_iast hx hb hK hP hD hS q0 0 ha rfl (xi_in hg hn) hd ?_
  rw [xi_cl ⟨hg.1, by omega⟩, hw]
  exact fun H1 locs1 hP1 hD1 hS1 => kk H1 locs1 ls hP1 hD1 hS1 hl
def rmJ7_fill : Room := { frames := 0, cells := 0, slots := 0, locals := 0 }
theorem hv_fill : yJ7_fill_53178.cls ≠ "java/lang/invoke/MethodHandle" ∧ yJ7_fill_53178.cls ≠ "java/lang/invoke/VarHandle" ∧ (parseMethodDescriptor yJ7_fill_53178.desc).map (fun d => d.parameters.length) = some 2 := by decide +kernel
set_option maxRecDepth 100000 in
set_option maxHeartbeats 4000000 in
theorem j_fill {l : Launch} {D : va_G} {k : Nat → ClassId} {o : xO} {X : xX} (C : xC D k o X cJ7_fill_53178 4 RJ7 wsJ7_fill_53178 none rmJ7_fill) {ws : va_W} {q0 a n : Nat} {f : Nat → Int32} {v : Int} (he : ws[q0]? = some (a, .inl (k 0, n, .inl f))) (hn : n < 2147483648) (K : xJ l D k o X 4 20 [(0, .ref a), (1, .int (xi v)), (2, .int (xi (n : Int))), (3, .int (xi (n : Int)))] [] (ws.set q0 (a, .inl (k 0, n, .inl (fun j => if j < n then xi v else f j))))) :
    ∀ (d i : Nat), i + d = n → xJ l D k o X 4 5 [(0, .ref a), (1, .int (xi v)), (2, .int (xi (i : Int))), (3, .int (xi (n : Int)))] [] (ws.set q0 (a, .inl (k 0, n, .inl (fun j => if j < i then xi v else f j)))) := by
  have hlen : q0 < ws.length := (List.getElem?_eq_some_iff.mp he).1
  intro d
  induction d with
  | zero =>
    intro i hi
    have hi : i = n := by omega
    subst hi
    refine xj_iload_n C 2 dJ7_fill_53178_5 rfl rfl ?_
    refine xj_iload_n C 3 dJ7_fill_53178_6 rfl rfl ?_
    exact xj_icmp_ge C (tgt := 20) dJ7_fill_53178_7 (by decide) ⟨⟨by omega, by omega⟩, ⟨by omega, by omega⟩⟩ (fun c => K) (fun c => absurd (Int.le_refl _) c)
  | succ d ih =>
    intro i hi
    refine xj_iload_n C 2 dJ7_fill_53178_5 rfl rfl ?_
    refine xj_iload_n C 3 dJ7_fill_53178_6 rfl rfl ?_
    refine xj_icmp_ge C (tgt := 20) dJ7_fill_53178_7 (by decide) ⟨⟨by omega, by omega⟩, ⟨by omega, by omega⟩⟩ (fun c => absurd c (by omega)) (fun c => ?_)
    refine xj_aload_n C 0 dJ7_fill_53178_10 rfl rfl ?_
    refine xj_iload_n C 2 dJ7_fill_53178_11 rfl rfl ?_
    refine xj_iload_n C 1 dJ7_fill_53178_12 rfl rfl ?_
    refine xj_iastG C q0 (f := fun j => if j < i then xi v else f j) (ws1 := ws.set q0 (a, .inl (k 0, n, .inl (fun j => if j < i + 1 then xi v else f j)))) (by rw [List.getElem?_set_self hlen]) hn ⟨by omega, by omega⟩ ?_ dJ7_fill_53178_13 ?_
    · rw [List.set_set]
      congr 6
      funext j
      show (if j = (i : Int).toNat then xi v else if j < i then xi v else f j) = if j < i + 1 then xi v else f j
      by_cases h1 : j = i
      · rw [if_pos (by omega), if_pos (by omega)]
      · by_cases h2 : j < i
        · rw [if_neg (by omega), if_pos h2, if_pos (by omega)]
        · rw [if_neg (by omega), if_neg h2, if_neg (by omega)]
    · refine xj_iinc C 2 (L1 := [(2, .int (xi ((i : Int) + 1))), (0, .ref a), (1, .int (xi v)), (3, .int (xi (n : Int)))]) dJ7_fill_53178_14 rfl (by decide) rfl ?_
      refine xj_goto C (tgt := 5) dJ7_fill_53178_17 (by decide) ?_
      refine xj_loc C [1, 2, 0, 3] (L1 := [(0, .ref a), (1, .int (xi v)), (2, .int (xi ((i : Int) + 1))), (3, .int (xi (n : Int)))]) rfl ?_
      exact ih (i + 1) (by omega)
set_option maxRecDepth 100000 in
set_option maxHeartbeats 4000000 in
theorem c_fill {l : Launch} {D : va_G} {k : Nat → ClassId} {ws ws1 : va_W} {q0 a n : Nat} {f : Nat → Int32} {v : Int} (he : ws[q0]? = some (a, .inl (k 0, n, .inl f))) (hn : n < 2147483648) (hw : ws.set q0 (a, .inl (k 0, n, .inl (fun j => if j < n then xi v else f j))) = ws1) : xM l yJ7_fill_53178 wsJ7_fill_53178 rmJ7_fill D k [.ref a, .int (xi v)] ws none ws1 := by
  refine xM_of (ret := none) (by decide) rfl (Nat.le_of_ble_eq_true rfl) (fun X C => ?_)
  have C : xC D k (xo X D k none ws1) X cJ7_fill_53178 4 RJ7 wsJ7_fill_53178 none rmJ7_fill := C
  show xJ l D k (xo X D k none ws1) X 4 0 [(0, .ref a), (1, .int (xi v))] [] ws
  subst hw
  refine xj_iconst C dJ7_fill_53178_0 ?_
  refine xj_istore_n C (L1 := [(2, .int (xi 0)), (0, .ref a), (1, .int (xi v))]) dJ7_fill_53178_1 rfl (by decide) rfl ?_
  refine xj_aload_n C 1 dJ7_fill_53178_2 rfl rfl ?_
  refine xj_alen C q0 he dJ7_fill_53178_3 ?_
  refine xj_istore_n C (L1 := [(3, .int (xi (n : Int))), (2, .int (xi 0)), (0, .ref a), (1, .int (xi v))]) dJ7_fill_53178_4 rfl (by decide) rfl ?_
  refine xj_loc C [2, 3, 1, 0] (L1 := [(0, .ref a), (1, .int (xi v)), (2, .int (xi ((0 : Nat) : Int))), (3, .int (xi (n : Int)))]) rfl ?_
  have e : ws.set q0 (a, .inl (k 0, n, .inl (fun j => if j < 0 then xi v else f j))) = ws := by
    apply List.ext_getElem?
    intro j
    by_cases hj : q0 = j
    · subst hj
      rw [List.getElem?_set_self (List.getElem?_eq_some_iff.mp he).1, he]
      congr
    · rw [List.getElem?_set_ne hj]
  have h := j_fill (l := l) C (v := v) he hn (o := xo X D k none _) (xj_vret (l := l) C rfl dJ7_fill_53178_20) n 0 (by omega)
  rw [e] at h
  exact h
