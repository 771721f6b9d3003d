/-! the instruction rules over xJ (by program: wip/whole/mkrules.py) -/
theorem xj_iadd {l : Launch} {D : va_G} {k : Nat → ClassId} {o : xO} {X : xX} {cc : ByteArray} {nL : Nat} {own : String} {Ts : List Cond} {ret : Option FieldType} {rm : Room} (C : xC D k o X cc nL own Ts ret rm) {pc : Nat} {L : List (Nat × Value)} {st : List Value} {ws : va_W} {x y : Int} (hd : decode cc pc = .ok (.iadd, 1)) (kk : xJ l D k o X nL (pc + 1) L (.int (xi (x + y)) :: st) ws) : xJ l D k o X nL pc L (.int (xi y) :: .int (xi x) :: st) ws := by
  obtain ⟨p, e, R, s, m, args, below, meth, c, A⟩ := X
  obtain ⟨⟨hx, hb, hml, hown, hts⟩, hK, hA, hr, hlk, hR, ho⟩ := C
  intro H locs ls hP hD hS hl
  refine lv_iadd hx hb hd ?_
  rw [xi_add]
  exact kk H locs ls hP hD hS hl

theorem xj_isub {l : Launch} {D : va_G} {k : Nat → ClassId} {o : xO} {X : xX} {cc : ByteArray} {nL : Nat} {own : String} {Ts : List Cond} {ret : Option FieldType} {rm : Room} (C : xC D k o X cc nL own Ts ret rm) {pc : Nat} {L : List (Nat × Value)} {st : List Value} {ws : va_W} {x y : Int} (hd : decode cc pc = .ok (.isub, 1)) (kk : xJ l D k o X nL (pc + 1) L (.int (xi (x - y)) :: st) ws) : xJ l D k o X nL pc L (.int (xi y) :: .int (xi x) :: st) ws := by
  obtain ⟨p, e, R, s, m, args, below, meth, c, A⟩ := X
  obtain ⟨⟨hx, hb, hml, hown, hts⟩, hK, hA, hr, hlk, hR, ho⟩ := C
  intro H locs ls hP hD hS hl
  refine lv_isub hx hb hd ?_
  rw [xi_sub]
  exact kk H locs ls hP hD hS hl

theorem xj_imul {l : Launch} {D : va_G} {k : Nat → ClassId} {o : xO} {X : xX} {cc : ByteArray} {nL : Nat} {own : String} {Ts : List Cond} {ret : Option FieldType} {rm : Room} (C : xC D k o X cc nL own Ts ret rm) {pc : Nat} {L : List (Nat × Value)} {st : List Value} {ws : va_W} {x y : Int} (hd : decode cc pc = .ok (.imul, 1)) (kk : xJ l D k o X nL (pc + 1) L (.int (xi (x * y)) :: st) ws) : xJ l D k o X nL pc L (.int (xi y) :: .int (xi x) :: st) ws := by
  obtain ⟨p, e, R, s, m, args, below, meth, c, A⟩ := X
  obtain ⟨⟨hx, hb, hml, hown, hts⟩, hK, hA, hr, hlk, hR, ho⟩ := C
  intro H locs ls hP hD hS hl
  refine lv_imul hx hb hd ?_
  rw [xi_mul]
  exact kk H locs ls hP hD hS hl

def xb_iand (x y : Int) : Int := (xi x &&& xi y).toInt
theorem xj_iand {l : Launch} {D : va_G} {k : Nat → ClassId} {o : xO} {X : xX} {cc : ByteArray} {nL : Nat} {own : String} {Ts : List Cond} {ret : Option FieldType} {rm : Room} (C : xC D k o X cc nL own Ts ret rm) {pc : Nat} {L : List (Nat × Value)} {st : List Value} {ws : va_W} {x y : Int} (hd : decode cc pc = .ok (.iand, 1)) (kk : xJ l D k o X nL (pc + 1) L (.int (xi (xb_iand x y)) :: st) ws) : xJ l D k o X nL pc L (.int (xi y) :: .int (xi x) :: st) ws := by
  obtain ⟨p, e, R, s, m, args, below, meth, c, A⟩ := X
  obtain ⟨⟨hx, hb, hml, hown, hts⟩, hK, hA, hr, hlk, hR, ho⟩ := C
  intro H locs ls hP hD hS hl
  refine lv_iand hx hb hd ?_
  rw [xb_iand, xi_of] at kk
  exact kk H locs ls hP hD hS hl

def xb_ior (x y : Int) : Int := (xi x ||| xi y).toInt
theorem xj_ior {l : Launch} {D : va_G} {k : Nat → ClassId} {o : xO} {X : xX} {cc : ByteArray} {nL : Nat} {own : String} {Ts : List Cond} {ret : Option FieldType} {rm : Room} (C : xC D k o X cc nL own Ts ret rm) {pc : Nat} {L : List (Nat × Value)} {st : List Value} {ws : va_W} {x y : Int} (hd : decode cc pc = .ok (.ior, 1)) (kk : xJ l D k o X nL (pc + 1) L (.int (xi (xb_ior x y)) :: st) ws) : xJ l D k o X nL pc L (.int (xi y) :: .int (xi x) :: st) ws := by
  obtain ⟨p, e, R, s, m, args, below, meth, c, A⟩ := X
  obtain ⟨⟨hx, hb, hml, hown, hts⟩, hK, hA, hr, hlk, hR, ho⟩ := C
  intro H locs ls hP hD hS hl
  refine lv_ior hx hb hd ?_
  rw [xb_ior, xi_of] at kk
  exact kk H locs ls hP hD hS hl

def xb_ixor (x y : Int) : Int := (xi x ^^^ xi y).toInt
theorem xj_ixor {l : Launch} {D : va_G} {k : Nat → ClassId} {o : xO} {X : xX} {cc : ByteArray} {nL : Nat} {own : String} {Ts : List Cond} {ret : Option FieldType} {rm : Room} (C : xC D k o X cc nL own Ts ret rm) {pc : Nat} {L : List (Nat × Value)} {st : List Value} {ws : va_W} {x y : Int} (hd : decode cc pc = .ok (.ixor, 1)) (kk : xJ l D k o X nL (pc + 1) L (.int (xi (xb_ixor x y)) :: st) ws) : xJ l D k o X nL pc L (.int (xi y) :: .int (xi x) :: st) ws := by
  obtain ⟨p, e, R, s, m, args, below, meth, c, A⟩ := X
  obtain ⟨⟨hx, hb, hml, hown, hts⟩, hK, hA, hr, hlk, hR, ho⟩ := C
  intro H locs ls hP hD hS hl
  refine lv_ixor hx hb hd ?_
  rw [xb_ixor, xi_of] at kk
  exact kk H locs ls hP hD hS hl

def xb_ishl (x y : Int) : Int := (xi x <<< (xi y &&& 31)).toInt
theorem xj_ishl {l : Launch} {D : va_G} {k : Nat → ClassId} {o : xO} {X : xX} {cc : ByteArray} {nL : Nat} {own : String} {Ts : List Cond} {ret : Option FieldType} {rm : Room} (C : xC D k o X cc nL own Ts ret rm) {pc : Nat} {L : List (Nat × Value)} {st : List Value} {ws : va_W} {x y : Int} (hd : decode cc pc = .ok (.ishl, 1)) (kk : xJ l D k o X nL (pc + 1) L (.int (xi (xb_ishl x y)) :: st) ws) : xJ l D k o X nL pc L (.int (xi y) :: .int (xi x) :: st) ws := by
  obtain ⟨p, e, R, s, m, args, below, meth, c, A⟩ := X
  obtain ⟨⟨hx, hb, hml, hown, hts⟩, hK, hA, hr, hlk, hR, ho⟩ := C
  intro H locs ls hP hD hS hl
  refine lv_ishl hx hb hd ?_
  rw [xb_ishl, xi_of] at kk
  exact kk H locs ls hP hD hS hl

def xb_ishr (x y : Int) : Int := (xi x >>> (xi y &&& 31)).toInt
theorem xj_ishr {l : Launch} {D : va_G} {k : Nat → ClassId} {o : xO} {X : xX} {cc : ByteArray} {nL : Nat} {own : String} {Ts : List Cond} {ret : Option FieldType} {rm : Room} (C : xC D k o X cc nL own Ts ret rm) {pc : Nat} {L : List (Nat × Value)} {st : List Value} {ws : va_W} {x y : Int} (hd : decode cc pc = .ok (.ishr, 1)) (kk : xJ l D k o X nL (pc + 1) L (.int (xi (xb_ishr x y)) :: st) ws) : xJ l D k o X nL pc L (.int (xi y) :: .int (xi x) :: st) ws := by
  obtain ⟨p, e, R, s, m, args, below, meth, c, A⟩ := X
  obtain ⟨⟨hx, hb, hml, hown, hts⟩, hK, hA, hr, hlk, hR, ho⟩ := C
  intro H locs ls hP hD hS hl
  refine lv_ishr hx hb hd ?_
  rw [xb_ishr, xi_of] at kk
  exact kk H locs ls hP hD hS hl

theorem xj_idiv {l : Launch} {D : va_G} {k : Nat → ClassId} {o : xO} {X : xX} {cc : ByteArray} {nL : Nat} {own : String} {Ts : List Cond} {ret : Option FieldType} {rm : Room} (C : xC D k o X cc nL own Ts ret rm) {pc : Nat} {L : List (Nat × Value)} {st : List Value} {ws : va_W} {x y : Int} (hg : 0 ≤ x ∧ x ≤ 2147483647 ∧ 0 < y ∧ y ≤ 2147483647) (hd : decode cc pc = .ok (.idiv, 1)) (kk : xJ l D k o X nL (pc + 1) L (.int (xi (x / y)) :: st) ws) : xJ l D k o X nL pc L (.int (xi y) :: .int (xi x) :: st) ws := by
  obtain ⟨p, e, R, s, m, args, below, meth, c, A⟩ := X
  obtain ⟨⟨hx, hb, hml, hown, hts⟩, hK, hA, hr, hlk, hR, ho⟩ := C
  intro H locs ls hP hD hS hl
  refine lv_idiv hx hb hd (xi_nz hg.2.2) ?_
  rw [xi_div hg]
  exact kk H locs ls hP hD hS hl

theorem xj_irem {l : Launch} {D : va_G} {k : Nat → ClassId} {o : xO} {X : xX} {cc : ByteArray} {nL : Nat} {own : String} {Ts : List Cond} {ret : Option FieldType} {rm : Room} (C : xC D k o X cc nL own Ts ret rm) {pc : Nat} {L : List (Nat × Value)} {st : List Value} {ws : va_W} {x y : Int} (hg : 0 ≤ x ∧ x ≤ 2147483647 ∧ 0 < y ∧ y ≤ 2147483647) (hd : decode cc pc = .ok (.irem, 1)) (kk : xJ l D k o X nL (pc + 1) L (.int (xi (x % y)) :: st) ws) : xJ l D k o X nL pc L (.int (xi y) :: .int (xi x) :: st) ws := by
  obtain ⟨p, e, R, s, m, args, below, meth, c, A⟩ := X
  obtain ⟨⟨hx, hb, hml, hown, hts⟩, hK, hA, hr, hlk, hR, ho⟩ := C
  intro H locs ls hP hD hS hl
  refine lv_irem hx hb hd (xi_nz hg.2.2) ?_
  rw [xi_rem hg]
  exact kk H locs ls hP hD hS hl

theorem xj_iconst {l : Launch} {D : va_G} {k : Nat → ClassId} {o : xO} {X : xX} {cc : ByteArray} {nL : Nat} {own : String} {Ts : List Cond} {ret : Option FieldType} {rm : Room} (C : xC D k o X cc nL own Ts ret rm) {pc : Nat} {L : List (Nat × Value)} {st : List Value} {ws : va_W} {n : Int} (hd : decode cc pc = .ok (.iconst n, 1)) (kk : xJ l D k o X nL (pc + 1) L (.int (xi n) :: st) ws) : xJ l D k o X nL pc L (st) ws := by
  obtain ⟨p, e, R, s, m, args, below, meth, c, A⟩ := X
  obtain ⟨⟨hx, hb, hml, hown, hts⟩, hK, hA, hr, hlk, hR, ho⟩ := C
  intro H locs ls hP hD hS hl
  refine lv_iconst (v := xi n) hx hb hd rfl ?_
  exact kk H locs ls hP hD hS hl

theorem xj_bipush {l : Launch} {D : va_G} {k : Nat → ClassId} {o : xO} {X : xX} {cc : ByteArray} {nL : Nat} {own : String} {Ts : List Cond} {ret : Option FieldType} {rm : Room} (C : xC D k o X cc nL own Ts ret rm) {pc : Nat} {L : List (Nat × Value)} {st : List Value} {ws : va_W} {n : Int} (hv : (Int8.ofInt n).toInt32 = xi n) (hd : decode cc pc = .ok (.bipush n, 2)) (kk : xJ l D k o X nL (pc + 2) L (.int (xi n) :: st) ws) : xJ l D k o X nL pc L (st) ws := by
  obtain ⟨p, e, R, s, m, args, below, meth, c, A⟩ := X
  obtain ⟨⟨hx, hb, hml, hown, hts⟩, hK, hA, hr, hlk, hR, ho⟩ := C
  intro H locs ls hP hD hS hl
  refine lv_bipush (v := xi n) hx hb hd hv ?_
  exact kk H locs ls hP hD hS hl

theorem xj_sipush {l : Launch} {D : va_G} {k : Nat → ClassId} {o : xO} {X : xX} {cc : ByteArray} {nL : Nat} {own : String} {Ts : List Cond} {ret : Option FieldType} {rm : Room} (C : xC D k o X cc nL own Ts ret rm) {pc : Nat} {L : List (Nat × Value)} {st : List Value} {ws : va_W} {n : Int} (hv : (Int16.ofInt n).toInt32 = xi n) (hd : decode cc pc = .ok (.sipush n, 3)) (kk : xJ l D k o X nL (pc + 3) L (.int (xi n) :: st) ws) : xJ l D k o X nL pc L (st) ws := by
  obtain ⟨p, e, R, s, m, args, below, meth, c, A⟩ := X
  obtain ⟨⟨hx, hb, hml, hown, hts⟩, hK, hA, hr, hlk, hR, ho⟩ := C
  intro H locs ls hP hD hS hl
  refine lv_sipush (v := xi n) hx hb hd hv ?_
  exact kk H locs ls hP hD hS hl

theorem xj_lconst {l : Launch} {D : va_G} {k : Nat → ClassId} {o : xO} {X : xX} {cc : ByteArray} {nL : Nat} {own : String} {Ts : List Cond} {ret : Option FieldType} {rm : Room} (C : xC D k o X cc nL own Ts ret rm) {pc : Nat} {L : List (Nat × Value)} {st : List Value} {ws : va_W} {n : Fin 2} {v : Int64} (hv : Int64.ofNat (n : Nat) = v) (hd : decode cc pc = .ok (.lconst n, 1)) (kk : xJ l D k o X nL (pc + 1) L (.long v :: st) ws) : xJ l D k o X nL pc L (st) ws := by
  obtain ⟨p, e, R, s, m, args, below, meth, c, A⟩ := X
  obtain ⟨⟨hx, hb, hml, hown, hts⟩, hK, hA, hr, hlk, hR, ho⟩ := C
  intro H locs ls hP hD hS hl
  refine lv_lconst hx hb hd hv ?_
  exact kk H locs ls hP hD hS hl

theorem xj_dconst0 {l : Launch} {D : va_G} {k : Nat → ClassId} {o : xO} {X : xX} {cc : ByteArray} {nL : Nat} {own : String} {Ts : List Cond} {ret : Option FieldType} {rm : Room} (C : xC D k o X cc nL own Ts ret rm) {pc : Nat} {L : List (Nat × Value)} {st : List Value} {ws : va_W}  (hd : decode cc pc = .ok (.dconst 0, 1)) (kk : xJ l D k o X nL (pc + 1) L (.double FP.dconst0 :: st) ws) : xJ l D k o X nL pc L (st) ws := by
  obtain ⟨p, e, R, s, m, args, below, meth, c, A⟩ := X
  obtain ⟨⟨hx, hb, hml, hown, hts⟩, hK, hA, hr, hlk, hR, ho⟩ := C
  intro H locs ls hP hD hS hl
  refine lv_dconst0 hx hb hd ?_
  exact kk H locs ls hP hD hS hl

theorem xj_dconst1 {l : Launch} {D : va_G} {k : Nat → ClassId} {o : xO} {X : xX} {cc : ByteArray} {nL : Nat} {own : String} {Ts : List Cond} {ret : Option FieldType} {rm : Room} (C : xC D k o X cc nL own Ts ret rm) {pc : Nat} {L : List (Nat × Value)} {st : List Value} {ws : va_W}  (hd : decode cc pc = .ok (.dconst 1, 1)) (kk : xJ l D k o X nL (pc + 1) L (.double FP.dconst1 :: st) ws) : xJ l D k o X nL pc L (st) ws := by
  obtain ⟨p, e, R, s, m, args, below, meth, c, A⟩ := X
  obtain ⟨⟨hx, hb, hml, hown, hts⟩, hK, hA, hr, hlk, hR, ho⟩ := C
  intro H locs ls hP hD hS hl
  refine lv_dconst1 hx hb hd ?_
  exact kk H locs ls hP hD hS hl

theorem xj_ldc {l : Launch} {D : va_G} {k : Nat → ClassId} {o : xO} {X : xX} {cc : ByteArray} {nL : Nat} {own : String} {Ts : List Cond} {ret : Option FieldType} {rm : Room} (C : xC D k o X cc nL own Ts ret rm) {pc : Nat} {L : List (Nat × Value)} {st : List Value} {ws : va_W} {index : Nat} {v : Int32} {n : Int} (hw : (Jvm.Cond.constant own index v) ∈ Ts) (hv : v = xi n) (hd : decode cc pc = .ok (.ldc index, 2)) (kk : xJ l D k o X nL (pc + 2) L (.int (xi n) :: st) ws) : xJ l D k o X nL pc L st ws := by
  obtain ⟨p, e, R, s, m, args, below, meth, c, A⟩ := X
  obtain ⟨⟨hx, hb, hml, hown, hts⟩, hK, hA, hr, hlk, hR, ho⟩ := C
  intro H locs ls hP hD hS hl
  subst hv
  exact lv_ldc hx hb hown (hts _ hw) hd (kk H locs ls hP hD hS hl)

theorem xj_ldc2d {l : Launch} {D : va_G} {k : Nat → ClassId} {o : xO} {X : xX} {cc : ByteArray} {nL : Nat} {own : String} {Ts : List Cond} {ret : Option FieldType} {rm : Room} (C : xC D k o X cc nL own Ts ret rm) {pc : Nat} {L : List (Nat × Value)} {st : List Value} {ws : va_W} {index : Nat} {v : UInt64} (hw : (Jvm.Cond.constantDouble own index v) ∈ Ts) (hd : decode cc pc = .ok (.ldc2_w index, 3)) (kk : xJ l D k o X nL (pc + 3) L (.double v :: st) ws) : xJ l D k o X nL pc L st ws := by
  obtain ⟨p, e, R, s, m, args, below, meth, c, A⟩ := X
  obtain ⟨⟨hx, hb, hml, hown, hts⟩, hK, hA, hr, hlk, hR, ho⟩ := C
  intro H locs ls hP hD hS hl
  exact lv_ldc2d hx hb hown (hts _ hw) hd (kk H locs ls hP hD hS hl)

theorem xj_ldc2 {l : Launch} {D : va_G} {k : Nat → ClassId} {o : xO} {X : xX} {cc : ByteArray} {nL : Nat} {own : String} {Ts : List Cond} {ret : Option FieldType} {rm : Room} (C : xC D k o X cc nL own Ts ret rm) {pc : Nat} {L : List (Nat × Value)} {st : List Value} {ws : va_W} {index : Nat} {v : Int64} (hw : (Jvm.Cond.constantLong own index v) ∈ Ts) (hd : decode cc pc = .ok (.ldc2_w index, 3)) (kk : xJ l D k o X nL (pc + 3) L (.long v :: st) ws) : xJ l D k o X nL pc L st ws := by
  obtain ⟨p, e, R, s, m, args, below, meth, c, A⟩ := X
  obtain ⟨⟨hx, hb, hml, hown, hts⟩, hK, hA, hr, hlk, hR, ho⟩ := C
  intro H locs ls hP hD hS hl
  exact lv_ldc2 hx hb hown (hts _ hw) hd (kk H locs ls hP hD hS hl)

theorem xj_iload_n {l : Launch} {D : va_G} {k : Nat → ClassId} {o : xO} {X : xX} {cc : ByteArray} {nL : Nat} {own : String} {Ts : List Cond} {ret : Option FieldType} {rm : Room} (C : xC D k o X cc nL own Ts ret rm) {pc : Nat} {L : List (Nat × Value)} {st : List Value} {ws : va_W} (q : Nat) {i : Fin 4} {j : Nat} {x : Int32} (hd : decode cc pc = .ok (.iload_n i, 1)) (hi : (i : Nat) = j) (hk : L[q]? = some (j, .int x)) (kk : xJ l D k o X nL (pc + 1) L (.int x :: st) ws) : xJ l D k o X nL pc L st ws := by
  obtain ⟨p, e, R, s, m, args, below, meth, c, A⟩ := X
  obtain ⟨⟨hx, hb, hml, hown, hts⟩, hK, hA, hr, hlk, hR, ho⟩ := C
  intro H locs ls hP hD hS hl
  exact lv_iload_n hx hb hd hi (lv_at hl q hk) (kk H locs ls hP hD hS hl)

theorem xj_iload {l : Launch} {D : va_G} {k : Nat → ClassId} {o : xO} {X : xX} {cc : ByteArray} {nL : Nat} {own : String} {Ts : List Cond} {ret : Option FieldType} {rm : Room} (C : xC D k o X cc nL own Ts ret rm) {pc : Nat} {L : List (Nat × Value)} {st : List Value} {ws : va_W} (q : Nat) {j : Nat} {x : Int32} (hd : decode cc pc = .ok (.iload j, 2)) (hk : L[q]? = some (j, .int x)) (kk : xJ l D k o X nL (pc + 2) L (.int x :: st) ws) : xJ l D k o X nL pc L st ws := by
  obtain ⟨p, e, R, s, m, args, below, meth, c, A⟩ := X
  obtain ⟨⟨hx, hb, hml, hown, hts⟩, hK, hA, hr, hlk, hR, ho⟩ := C
  intro H locs ls hP hD hS hl
  exact lv_iload hx hb hd (lv_at hl q hk) (kk H locs ls hP hD hS hl)

theorem xj_istore_n {l : Launch} {D : va_G} {k : Nat → ClassId} {o : xO} {X : xX} {cc : ByteArray} {nL : Nat} {own : String} {Ts : List Cond} {ret : Option FieldType} {rm : Room} (C : xC D k o X cc nL own Ts ret rm) {pc : Nat} {L : List (Nat × Value)} {st : List Value} {ws : va_W} {i : Fin 4} {j : Nat} {x : Int32} {L1 : List (Nat × Value)} (hd : decode cc pc = .ok (.istore_n i, 1)) (hi : (i : Nat) = j) (hn : j < nL) (hL : (j, Value.int x) :: L.filter (fun q => !(q.1 == j) && !(q.1 + 1 == j && q.2.category == 2)) = L1) (kk : xJ l D k o X nL (pc + 1) L1 st ws) : xJ l D k o X nL pc L (.int x :: st) ws := by
  obtain ⟨p, e, R, s, m, args, below, meth, c, A⟩ := X
  obtain ⟨⟨hx, hb, hml, hown, hts⟩, hK, hA, hr, hlk, hR, ho⟩ := C
  intro H locs ls hP hD hS hl
  exact lv_istore_n hx hb hd hi hl hn hL (fun ls1 hl1 => kk H locs ls1 hP hD hS hl1)

theorem xj_istore {l : Launch} {D : va_G} {k : Nat → ClassId} {o : xO} {X : xX} {cc : ByteArray} {nL : Nat} {own : String} {Ts : List Cond} {ret : Option FieldType} {rm : Room} (C : xC D k o X cc nL own Ts ret rm) {pc : Nat} {L : List (Nat × Value)} {st : List Value} {ws : va_W} {j : Nat} {x : Int32} {L1 : List (Nat × Value)} (hd : decode cc pc = .ok (.istore j, 2)) (hn : j < nL) (hL : (j, Value.int x) :: L.filter (fun q => !(q.1 == j) && !(q.1 + 1 == j && q.2.category == 2)) = L1) (kk : xJ l D k o X nL (pc + 2) L1 st ws) : xJ l D k o X nL pc L (.int x :: st) ws := by
  obtain ⟨p, e, R, s, m, args, below, meth, c, A⟩ := X
  obtain ⟨⟨hx, hb, hml, hown, hts⟩, hK, hA, hr, hlk, hR, ho⟩ := C
  intro H locs ls hP hD hS hl
  exact lv_istore hx hb hd hl hn hL (fun ls1 hl1 => kk H locs ls1 hP hD hS hl1)

theorem xj_lload_n {l : Launch} {D : va_G} {k : Nat → ClassId} {o : xO} {X : xX} {cc : ByteArray} {nL : Nat} {own : String} {Ts : List Cond} {ret : Option FieldType} {rm : Room} (C : xC D k o X cc nL own Ts ret rm) {pc : Nat} {L : List (Nat × Value)} {st : List Value} {ws : va_W} (q : Nat) {i : Fin 4} {j : Nat} {x : Int64} (hd : decode cc pc = .ok (.lload_n i, 1)) (hi : (i : Nat) = j) (hk : L[q]? = some (j, .long x)) (kk : xJ l D k o X nL (pc + 1) L (.long x :: st) ws) : xJ l D k o X nL pc L st ws := by
  obtain ⟨p, e, R, s, m, args, below, meth, c, A⟩ := X
  obtain ⟨⟨hx, hb, hml, hown, hts⟩, hK, hA, hr, hlk, hR, ho⟩ := C
  intro H locs ls hP hD hS hl
  exact lv_lload_n hx hb hd hi (lv_at hl q hk) (kk H locs ls hP hD hS hl)

theorem xj_lload {l : Launch} {D : va_G} {k : Nat → ClassId} {o : xO} {X : xX} {cc : ByteArray} {nL : Nat} {own : String} {Ts : List Cond} {ret : Option FieldType} {rm : Room} (C : xC D k o X cc nL own Ts ret rm) {pc : Nat} {L : List (Nat × Value)} {st : List Value} {ws : va_W} (q : Nat) {j : Nat} {x : Int64} (hd : decode cc pc = .ok (.lload j, 2)) (hk : L[q]? = some (j, .long x)) (kk : xJ l D k o X nL (pc + 2) L (.long x :: st) ws) : xJ l D k o X nL pc L st ws := by
  obtain ⟨p, e, R, s, m, args, below, meth, c, A⟩ := X
  obtain ⟨⟨hx, hb, hml, hown, hts⟩, hK, hA, hr, hlk, hR, ho⟩ := C
  intro H locs ls hP hD hS hl
  exact lv_lload hx hb hd (lv_at hl q hk) (kk H locs ls hP hD hS hl)

theorem xj_lstore_n {l : Launch} {D : va_G} {k : Nat → ClassId} {o : xO} {X : xX} {cc : ByteArray} {nL : Nat} {own : String} {Ts : List Cond} {ret : Option FieldType} {rm : Room} (C : xC D k o X cc nL own Ts ret rm) {pc : Nat} {L : List (Nat × Value)} {st : List Value} {ws : va_W} {i : Fin 4} {j : Nat} {x : Int64} {L1 : List (Nat × Value)} (hd : decode cc pc = .ok (.lstore_n i, 1)) (hi : (i : Nat) = j) (hn : j + 1 < nL) (hL : (j, Value.long x) :: L.filter (fun q => !(q.1 == j) && (!(q.1 == j + 1) && !(q.1 + 1 == j && q.2.category == 2))) = L1) (kk : xJ l D k o X nL (pc + 1) L1 st ws) : xJ l D k o X nL pc L (.long x :: st) ws := by
  obtain ⟨p, e, R, s, m, args, below, meth, c, A⟩ := X
  obtain ⟨⟨hx, hb, hml, hown, hts⟩, hK, hA, hr, hlk, hR, ho⟩ := C
  intro H locs ls hP hD hS hl
  exact lv_lstore_n hx hb hd hi hl hn hL (fun ls1 hl1 => kk H locs ls1 hP hD hS hl1)

theorem xj_lstore {l : Launch} {D : va_G} {k : Nat → ClassId} {o : xO} {X : xX} {cc : ByteArray} {nL : Nat} {own : String} {Ts : List Cond} {ret : Option FieldType} {rm : Room} (C : xC D k o X cc nL own Ts ret rm) {pc : Nat} {L : List (Nat × Value)} {st : List Value} {ws : va_W} {j : Nat} {x : Int64} {L1 : List (Nat × Value)} (hd : decode cc pc = .ok (.lstore j, 2)) (hn : j + 1 < nL) (hL : (j, Value.long x) :: L.filter (fun q => !(q.1 == j) && (!(q.1 == j + 1) && !(q.1 + 1 == j && q.2.category == 2))) = L1) (kk : xJ l D k o X nL (pc + 2) L1 st ws) : xJ l D k o X nL pc L (.long x :: st) ws := by
  obtain ⟨p, e, R, s, m, args, below, meth, c, A⟩ := X
  obtain ⟨⟨hx, hb, hml, hown, hts⟩, hK, hA, hr, hlk, hR, ho⟩ := C
  intro H locs ls hP hD hS hl
  exact lv_lstore hx hb hd hl hn hL (fun ls1 hl1 => kk H locs ls1 hP hD hS hl1)

theorem xj_dload_n {l : Launch} {D : va_G} {k : Nat → ClassId} {o : xO} {X : xX} {cc : ByteArray} {nL : Nat} {own : String} {Ts : List Cond} {ret : Option FieldType} {rm : Room} (C : xC D k o X cc nL own Ts ret rm) {pc : Nat} {L : List (Nat × Value)} {st : List Value} {ws : va_W} (q : Nat) {i : Fin 4} {j : Nat} {x : UInt64} (hd : decode cc pc = .ok (.dload_n i, 1)) (hi : (i : Nat) = j) (hk : L[q]? = some (j, .double x)) (kk : xJ l D k o X nL (pc + 1) L (.double x :: st) ws) : xJ l D k o X nL pc L st ws := by
  obtain ⟨p, e, R, s, m, args, below, meth, c, A⟩ := X
  obtain ⟨⟨hx, hb, hml, hown, hts⟩, hK, hA, hr, hlk, hR, ho⟩ := C
  intro H locs ls hP hD hS hl
  exact lv_dload_n hx hb hd hi (lv_at hl q hk) (kk H locs ls hP hD hS hl)

theorem xj_dload {l : Launch} {D : va_G} {k : Nat → ClassId} {o : xO} {X : xX} {cc : ByteArray} {nL : Nat} {own : String} {Ts : List Cond} {ret : Option FieldType} {rm : Room} (C : xC D k o X cc nL own Ts ret rm) {pc : Nat} {L : List (Nat × Value)} {st : List Value} {ws : va_W} (q : Nat) {j : Nat} {x : UInt64} (hd : decode cc pc = .ok (.dload j, 2)) (hk : L[q]? = some (j, .double x)) (kk : xJ l D k o X nL (pc + 2) L (.double x :: st) ws) : xJ l D k o X nL pc L st ws := by
  obtain ⟨p, e, R, s, m, args, below, meth, c, A⟩ := X
  obtain ⟨⟨hx, hb, hml, hown, hts⟩, hK, hA, hr, hlk, hR, ho⟩ := C
  intro H locs ls hP hD hS hl
  exact lv_dload hx hb hd (lv_at hl q hk) (kk H locs ls hP hD hS hl)

theorem xj_dstore_n {l : Launch} {D : va_G} {k : Nat → ClassId} {o : xO} {X : xX} {cc : ByteArray} {nL : Nat} {own : String} {Ts : List Cond} {ret : Option FieldType} {rm : Room} (C : xC D k o X cc nL own Ts ret rm) {pc : Nat} {L : List (Nat × Value)} {st : List Value} {ws : va_W} {i : Fin 4} {j : Nat} {x : UInt64} {L1 : List (Nat × Value)} (hd : decode cc pc = .ok (.dstore_n i, 1)) (hi : (i : Nat) = j) (hn : j + 1 < nL) (hL : (j, Value.double x) :: L.filter (fun q => !(q.1 == j) && (!(q.1 == j + 1) && !(q.1 + 1 == j && q.2.category == 2))) = L1) (kk : xJ l D k o X nL (pc + 1) L1 st ws) : xJ l D k o X nL pc L (.double x :: st) ws := by
  obtain ⟨p, e, R, s, m, args, below, meth, c, A⟩ := X
  obtain ⟨⟨hx, hb, hml, hown, hts⟩, hK, hA, hr, hlk, hR, ho⟩ := C
  intro H locs ls hP hD hS hl
  exact lv_dstore_n hx hb hd hi hl hn hL (fun ls1 hl1 => kk H locs ls1 hP hD hS hl1)

theorem xj_dstore {l : Launch} {D : va_G} {k : Nat → ClassId} {o : xO} {X : xX} {cc : ByteArray} {nL : Nat} {own : String} {Ts : List Cond} {ret : Option FieldType} {rm : Room} (C : xC D k o X cc nL own Ts ret rm) {pc : Nat} {L : List (Nat × Value)} {st : List Value} {ws : va_W} {j : Nat} {x : UInt64} {L1 : List (Nat × Value)} (hd : decode cc pc = .ok (.dstore j, 2)) (hn : j + 1 < nL) (hL : (j, Value.double x) :: L.filter (fun q => !(q.1 == j) && (!(q.1 == j + 1) && !(q.1 + 1 == j && q.2.category == 2))) = L1) (kk : xJ l D k o X nL (pc + 2) L1 st ws) : xJ l D k o X nL pc L (.double x :: st) ws := by
  obtain ⟨p, e, R, s, m, args, below, meth, c, A⟩ := X
  obtain ⟨⟨hx, hb, hml, hown, hts⟩, hK, hA, hr, hlk, hR, ho⟩ := C
  intro H locs ls hP hD hS hl
  exact lv_dstore hx hb hd hl hn hL (fun ls1 hl1 => kk H locs ls1 hP hD hS hl1)

theorem xj_aload_n {l : Launch} {D : va_G} {k : Nat → ClassId} {o : xO} {X : xX} {cc : ByteArray} {nL : Nat} {own : String} {Ts : List Cond} {ret : Option FieldType} {rm : Room} (C : xC D k o X cc nL own Ts ret rm) {pc : Nat} {L : List (Nat × Value)} {st : List Value} {ws : va_W} (q : Nat) {i : Fin 4} {j : Nat} {x : Nat} (hd : decode cc pc = .ok (.aload_n i, 1)) (hi : (i : Nat) = j) (hk : L[q]? = some (j, .ref x)) (kk : xJ l D k o X nL (pc + 1) L (.ref x :: st) ws) : xJ l D k o X nL pc L st ws := by
  obtain ⟨p, e, R, s, m, args, below, meth, c, A⟩ := X
  obtain ⟨⟨hx, hb, hml, hown, hts⟩, hK, hA, hr, hlk, hR, ho⟩ := C
  intro H locs ls hP hD hS hl
  exact lv_aload_n hx hb hd hi (lv_at hl q hk) (kk H locs ls hP hD hS hl)

theorem xj_aload {l : Launch} {D : va_G} {k : Nat → ClassId} {o : xO} {X : xX} {cc : ByteArray} {nL : Nat} {own : String} {Ts : List Cond} {ret : Option FieldType} {rm : Room} (C : xC D k o X cc nL own Ts ret rm) {pc : Nat} {L : List (Nat × Value)} {st : List Value} {ws : va_W} (q : Nat) {j : Nat} {x : Nat} (hd : decode cc pc = .ok (.aload j, 2)) (hk : L[q]? = some (j, .ref x)) (kk : xJ l D k o X nL (pc + 2) L (.ref x :: st) ws) : xJ l D k o X nL pc L st ws := by
  obtain ⟨p, e, R, s, m, args, below, meth, c, A⟩ := X
  obtain ⟨⟨hx, hb, hml, hown, hts⟩, hK, hA, hr, hlk, hR, ho⟩ := C
  intro H locs ls hP hD hS hl
  exact lv_aload hx hb hd (lv_at hl q hk) (kk H locs ls hP hD hS hl)

theorem xj_astore_n {l : Launch} {D : va_G} {k : Nat → ClassId} {o : xO} {X : xX} {cc : ByteArray} {nL : Nat} {own : String} {Ts : List Cond} {ret : Option FieldType} {rm : Room} (C : xC D k o X cc nL own Ts ret rm) {pc : Nat} {L : List (Nat × Value)} {st : List Value} {ws : va_W} {i : Fin 4} {j : Nat} {x : Nat} {L1 : List (Nat × Value)} (hd : decode cc pc = .ok (.astore_n i, 1)) (hi : (i : Nat) = j) (hn : j < nL) (hL : (j, Value.ref x) :: L.filter (fun q => !(q.1 == j) && !(q.1 + 1 == j && q.2.category == 2)) = L1) (kk : xJ l D k o X nL (pc + 1) L1 st ws) : xJ l D k o X nL pc L (.ref x :: st) ws := by
  obtain ⟨p, e, R, s, m, args, below, meth, c, A⟩ := X
  obtain ⟨⟨hx, hb, hml, hown, hts⟩, hK, hA, hr, hlk, hR, ho⟩ := C
  intro H locs ls hP hD hS hl
  exact lv_astore_n hx hb hd hi hl hn hL (fun ls1 hl1 => kk H locs ls1 hP hD hS hl1)

theorem xj_astore {l : Launch} {D : va_G} {k : Nat → ClassId} {o : xO} {X : xX} {cc : ByteArray} {nL : Nat} {own : String} {Ts : List Cond} {ret : Option FieldType} {rm : Room} (C : xC D k o X cc nL own Ts ret rm) {pc : Nat} {L : List (Nat × Value)} {st : List Value} {ws : va_W} {j : Nat} {x : Nat} {L1 : List (Nat × Value)} (hd : decode cc pc = .ok (.astore j, 2)) (hn : j < nL) (hL : (j, Value.ref x) :: L.filter (fun q => !(q.1 == j) && !(q.1 + 1 == j && q.2.category == 2)) = L1) (kk : xJ l D k o X nL (pc + 2) L1 st ws) : xJ l D k o X nL pc L (.ref x :: st) ws := by
  obtain ⟨p, e, R, s, m, args, below, meth, c, A⟩ := X
  obtain ⟨⟨hx, hb, hml, hown, hts⟩, hK, hA, hr, hlk, hR, ho⟩ := C
  intro H locs ls hP hD hS hl
  exact lv_astore hx hb hd hl hn hL (fun ls1 hl1 => kk H locs ls1 hP hD hS hl1)

theorem xj_iinc {l : Launch} {D : va_G} {k : Nat → ClassId} {o : xO} {X : xX} {cc : ByteArray} {nL : Nat} {own : String} {Ts : List Cond} {ret : Option FieldType} {rm : Room} (C : xC D k o X cc nL own Ts ret rm) {pc : Nat} {L : List (Nat × Value)} {st : List Value} {ws : va_W} (q : Nat) {j : Nat} {n x : Int} {L1 : List (Nat × Value)} (hd : decode cc pc = .ok (.iinc j n, 3)) (hk : L[q]? = some (j, .int (xi x))) (hn : j < nL) (hL : (j, Value.int (xi (x + n))) :: L.filter (fun q => !(q.1 == j) && !(q.1 + 1 == j && q.2.category == 2)) = L1) (kk : xJ l D k o X nL (pc + 3) L1 st ws) : xJ l D k o X nL pc L st ws := by
  obtain ⟨p, e, R, s, m, args, below, meth, c, A⟩ := X
  obtain ⟨⟨hx, hb, hml, hown, hts⟩, hK, hA, hr, hlk, hR, ho⟩ := C
  intro H locs ls hP hD hS hl
  exact lv_iinc hx hb hd hl hk (xi_add x n) hn hL (fun ls1 hl1 => kk H locs ls1 hP hD hS hl1)

theorem xj_loc {l : Launch} {D : va_G} {k : Nat → ClassId} {o : xO} {X : xX} {cc : ByteArray} {nL : Nat} {own : String} {Ts : List Cond} {ret : Option FieldType} {rm : Room} (C : xC D k o X cc nL own Ts ret rm) {pc : Nat} {L : List (Nat × Value)} {st : List Value} {ws : va_W} (qs : List Nat) {L1 : List (Nat × Value)} (hL : lv_pick L qs = L1) (kk : xJ l D k o X nL pc L1 st ws) : xJ l D k o X nL pc L st ws := by
  obtain ⟨p, e, R, s, m, args, below, meth, c, A⟩ := X
  obtain ⟨⟨hx, hb, hml, hown, hts⟩, hK, hA, hr, hlk, hR, ho⟩ := C
  intro H locs ls hP hD hS hl
  exact kk H locs ls hP hD hS (lv_sub hl qs hL)

theorem xj_i2l {l : Launch} {D : va_G} {k : Nat → ClassId} {o : xO} {X : xX} {cc : ByteArray} {nL : Nat} {own : String} {Ts : List Cond} {ret : Option FieldType} {rm : Room} (C : xC D k o X cc nL own Ts ret rm) {pc : Nat} {L : List (Nat × Value)} {st : List Value} {ws : va_W} {x : Int} (hd : decode cc pc = .ok (.i2l, 1)) (kk : xJ l D k o X nL (pc + 1) L (.long (xi x).toInt64 :: st) ws) : xJ l D k o X nL pc L (.int (xi x) :: st) ws := by
  obtain ⟨p, e, R, s, m, args, below, meth, c, A⟩ := X
  obtain ⟨⟨hx, hb, hml, hown, hts⟩, hK, hA, hr, hlk, hR, ho⟩ := C
  intro H locs ls hP hD hS hl
  refine lv_i2l hx hb hd rfl ?_
  exact kk H locs ls hP hD hS hl

theorem xj_l2i {l : Launch} {D : va_G} {k : Nat → ClassId} {o : xO} {X : xX} {cc : ByteArray} {nL : Nat} {own : String} {Ts : List Cond} {ret : Option FieldType} {rm : Room} (C : xC D k o X cc nL own Ts ret rm) {pc : Nat} {L : List (Nat × Value)} {st : List Value} {ws : va_W} {x : Int64} (hd : decode cc pc = .ok (.l2i, 1)) (kk : xJ l D k o X nL (pc + 1) L (.int (xi x.toInt32.toInt) :: st) ws) : xJ l D k o X nL pc L (.long x :: st) ws := by
  obtain ⟨p, e, R, s, m, args, below, meth, c, A⟩ := X
  obtain ⟨⟨hx, hb, hml, hown, hts⟩, hK, hA, hr, hlk, hR, ho⟩ := C
  intro H locs ls hP hD hS hl
  refine lv_l2i hx hb hd (xi_of _).symm ?_
  exact kk H locs ls hP hD hS hl

theorem xj_i2d {l : Launch} {D : va_G} {k : Nat → ClassId} {o : xO} {X : xX} {cc : ByteArray} {nL : Nat} {own : String} {Ts : List Cond} {ret : Option FieldType} {rm : Room} (C : xC D k o X cc nL own Ts ret rm) {pc : Nat} {L : List (Nat × Value)} {st : List Value} {ws : va_W} {x : Int} (hd : decode cc pc = .ok (.i2d, 1)) (kk : xJ l D k o X nL (pc + 1) L (.double (FP.i2d (xi x)) :: st) ws) : xJ l D k o X nL pc L (.int (xi x) :: st) ws := by
  obtain ⟨p, e, R, s, m, args, below, meth, c, A⟩ := X
  obtain ⟨⟨hx, hb, hml, hown, hts⟩, hK, hA, hr, hlk, hR, ho⟩ := C
  intro H locs ls hP hD hS hl
  refine lv_i2d hx hb hd ?_
  exact kk H locs ls hP hD hS hl

theorem xj_ladd {l : Launch} {D : va_G} {k : Nat → ClassId} {o : xO} {X : xX} {cc : ByteArray} {nL : Nat} {own : String} {Ts : List Cond} {ret : Option FieldType} {rm : Room} (C : xC D k o X cc nL own Ts ret rm) {pc : Nat} {L : List (Nat × Value)} {st : List Value} {ws : va_W} {x y : Int64} (hd : decode cc pc = .ok (.ladd, 1)) (kk : xJ l D k o X nL (pc + 1) L (.long (x + y) :: st) ws) : xJ l D k o X nL pc L (.long y :: .long x :: st) ws := by
  obtain ⟨p, e, R, s, m, args, below, meth, c, A⟩ := X
  obtain ⟨⟨hx, hb, hml, hown, hts⟩, hK, hA, hr, hlk, hR, ho⟩ := C
  intro H locs ls hP hD hS hl
  refine lv_ladd hx hb hd ?_
  exact kk H locs ls hP hD hS hl

theorem xj_lsub {l : Launch} {D : va_G} {k : Nat → ClassId} {o : xO} {X : xX} {cc : ByteArray} {nL : Nat} {own : String} {Ts : List Cond} {ret : Option FieldType} {rm : Room} (C : xC D k o X cc nL own Ts ret rm) {pc : Nat} {L : List (Nat × Value)} {st : List Value} {ws : va_W} {x y : Int64} (hd : decode cc pc = .ok (.lsub, 1)) (kk : xJ l D k o X nL (pc + 1) L (.long (x - y) :: st) ws) : xJ l D k o X nL pc L (.long y :: .long x :: st) ws := by
  obtain ⟨p, e, R, s, m, args, below, meth, c, A⟩ := X
  obtain ⟨⟨hx, hb, hml, hown, hts⟩, hK, hA, hr, hlk, hR, ho⟩ := C
  intro H locs ls hP hD hS hl
  refine lv_lsub hx hb hd ?_
  exact kk H locs ls hP hD hS hl

theorem xj_land {l : Launch} {D : va_G} {k : Nat → ClassId} {o : xO} {X : xX} {cc : ByteArray} {nL : Nat} {own : String} {Ts : List Cond} {ret : Option FieldType} {rm : Room} (C : xC D k o X cc nL own Ts ret rm) {pc : Nat} {L : List (Nat × Value)} {st : List Value} {ws : va_W} {x y : Int64} (hd : decode cc pc = .ok (.land, 1)) (kk : xJ l D k o X nL (pc + 1) L (.long (x &&& y) :: st) ws) : xJ l D k o X nL pc L (.long y :: .long x :: st) ws := by
  obtain ⟨p, e, R, s, m, args, below, meth, c, A⟩ := X
  obtain ⟨⟨hx, hb, hml, hown, hts⟩, hK, hA, hr, hlk, hR, ho⟩ := C
  intro H locs ls hP hD hS hl
  refine lv_land hx hb hd ?_
  exact kk H locs ls hP hD hS hl

theorem xj_lor {l : Launch} {D : va_G} {k : Nat → ClassId} {o : xO} {X : xX} {cc : ByteArray} {nL : Nat} {own : String} {Ts : List Cond} {ret : Option FieldType} {rm : Room} (C : xC D k o X cc nL own Ts ret rm) {pc : Nat} {L : List (Nat × Value)} {st : List Value} {ws : va_W} {x y : Int64} (hd : decode cc pc = .ok (.lor, 1)) (kk : xJ l D k o X nL (pc + 1) L (.long (x ||| y) :: st) ws) : xJ l D k o X nL pc L (.long y :: .long x :: st) ws := by
  obtain ⟨p, e, R, s, m, args, below, meth, c, A⟩ := X
  obtain ⟨⟨hx, hb, hml, hown, hts⟩, hK, hA, hr, hlk, hR, ho⟩ := C
  intro H locs ls hP hD hS hl
  refine lv_lor hx hb hd ?_
  exact kk H locs ls hP hD hS hl

theorem xj_lxor {l : Launch} {D : va_G} {k : Nat → ClassId} {o : xO} {X : xX} {cc : ByteArray} {nL : Nat} {own : String} {Ts : List Cond} {ret : Option FieldType} {rm : Room} (C : xC D k o X cc nL own Ts ret rm) {pc : Nat} {L : List (Nat × Value)} {st : List Value} {ws : va_W} {x y : Int64} (hd : decode cc pc = .ok (.lxor, 1)) (kk : xJ l D k o X nL (pc + 1) L (.long (x ^^^ y) :: st) ws) : xJ l D k o X nL pc L (.long y :: .long x :: st) ws := by
  obtain ⟨p, e, R, s, m, args, below, meth, c, A⟩ := X
  obtain ⟨⟨hx, hb, hml, hown, hts⟩, hK, hA, hr, hlk, hR, ho⟩ := C
  intro H locs ls hP hD hS hl
  refine lv_lxor hx hb hd ?_
  exact kk H locs ls hP hD hS hl

theorem xj_lshl {l : Launch} {D : va_G} {k : Nat → ClassId} {o : xO} {X : xX} {cc : ByteArray} {nL : Nat} {own : String} {Ts : List Cond} {ret : Option FieldType} {rm : Room} (C : xC D k o X cc nL own Ts ret rm) {pc : Nat} {L : List (Nat × Value)} {st : List Value} {ws : va_W} {x : Int64} {y : Int} (hd : decode cc pc = .ok (.lshl, 1)) (kk : xJ l D k o X nL (pc + 1) L (.long (x <<< ((xi y).toInt64 &&& 63)) :: st) ws) : xJ l D k o X nL pc L (.int (xi y) :: .long x :: st) ws := by
  obtain ⟨p, e, R, s, m, args, below, meth, c, A⟩ := X
  obtain ⟨⟨hx, hb, hml, hown, hts⟩, hK, hA, hr, hlk, hR, ho⟩ := C
  intro H locs ls hP hD hS hl
  refine lv_lshl hx hb hd rfl ?_
  exact kk H locs ls hP hD hS hl

theorem xj_lshr {l : Launch} {D : va_G} {k : Nat → ClassId} {o : xO} {X : xX} {cc : ByteArray} {nL : Nat} {own : String} {Ts : List Cond} {ret : Option FieldType} {rm : Room} (C : xC D k o X cc nL own Ts ret rm) {pc : Nat} {L : List (Nat × Value)} {st : List Value} {ws : va_W} {x : Int64} {y : Int} (hd : decode cc pc = .ok (.lshr, 1)) (kk : xJ l D k o X nL (pc + 1) L (.long (x >>> ((xi y).toInt64 &&& 63)) :: st) ws) : xJ l D k o X nL pc L (.int (xi y) :: .long x :: st) ws := by
  obtain ⟨p, e, R, s, m, args, below, meth, c, A⟩ := X
  obtain ⟨⟨hx, hb, hml, hown, hts⟩, hK, hA, hr, hlk, hR, ho⟩ := C
  intro H locs ls hP hD hS hl
  refine lv_lshr hx hb hd rfl ?_
  exact kk H locs ls hP hD hS hl

def xb_lcmp (x y : Int64) : Int := if x > y then 1 else if x = y then 0 else -1
theorem xb_lcmp_i (x y : Int64) : lg_cmp x y = xi (xb_lcmp x y) := by
  unfold lg_cmp xb_lcmp
  split
  · rfl
  · split <;> rfl
theorem xj_lcmp {l : Launch} {D : va_G} {k : Nat → ClassId} {o : xO} {X : xX} {cc : ByteArray} {nL : Nat} {own : String} {Ts : List Cond} {ret : Option FieldType} {rm : Room} (C : xC D k o X cc nL own Ts ret rm) {pc : Nat} {L : List (Nat × Value)} {st : List Value} {ws : va_W} {x y : Int64} (hd : decode cc pc = .ok (.lcmp, 1)) (kk : xJ l D k o X nL (pc + 1) L (.int (xi (xb_lcmp x y)) :: st) ws) : xJ l D k o X nL pc L (.long y :: .long x :: st) ws := by
  obtain ⟨p, e, R, s, m, args, below, meth, c, A⟩ := X
  obtain ⟨⟨hx, hb, hml, hown, hts⟩, hK, hA, hr, hlk, hR, ho⟩ := C
  intro H locs ls hP hD hS hl
  refine W.lcmp hx hb hd ?_
  rw [xb_lcmp_i]
  exact kk H locs ls hP hD hS hl

theorem xj_dadd {l : Launch} {D : va_G} {k : Nat → ClassId} {o : xO} {X : xX} {cc : ByteArray} {nL : Nat} {own : String} {Ts : List Cond} {ret : Option FieldType} {rm : Room} (C : xC D k o X cc nL own Ts ret rm) {pc : Nat} {L : List (Nat × Value)} {st : List Value} {ws : va_W} {x y : UInt64} (hg : vf_n64 (FP.dadd x y)) (hd : decode cc pc = .ok (.dadd, 1)) (kk : xJ l D k o X nL (pc + 1) L (.double (FP.dadd x y) :: st) ws) : xJ l D k o X nL pc L (.double y :: .double x :: st) ws := by
  obtain ⟨p, e, R, s, m, args, below, meth, c, A⟩ := X
  obtain ⟨⟨hx, hb, hml, hown, hts⟩, hK, hA, hr, hlk, hR, ho⟩ := C
  intro H locs ls hP hD hS hl
  refine lv_dadd hx hb hd hg ?_
  exact kk H locs ls hP hD hS hl

theorem xj_dsub {l : Launch} {D : va_G} {k : Nat → ClassId} {o : xO} {X : xX} {cc : ByteArray} {nL : Nat} {own : String} {Ts : List Cond} {ret : Option FieldType} {rm : Room} (C : xC D k o X cc nL own Ts ret rm) {pc : Nat} {L : List (Nat × Value)} {st : List Value} {ws : va_W} {x y : UInt64} (hg : vf_n64 (FP.dsub x y)) (hd : decode cc pc = .ok (.dsub, 1)) (kk : xJ l D k o X nL (pc + 1) L (.double (FP.dsub x y) :: st) ws) : xJ l D k o X nL pc L (.double y :: .double x :: st) ws := by
  obtain ⟨p, e, R, s, m, args, below, meth, c, A⟩ := X
  obtain ⟨⟨hx, hb, hml, hown, hts⟩, hK, hA, hr, hlk, hR, ho⟩ := C
  intro H locs ls hP hD hS hl
  refine lv_dsub hx hb hd hg ?_
  exact kk H locs ls hP hD hS hl

theorem xj_dmul {l : Launch} {D : va_G} {k : Nat → ClassId} {o : xO} {X : xX} {cc : ByteArray} {nL : Nat} {own : String} {Ts : List Cond} {ret : Option FieldType} {rm : Room} (C : xC D k o X cc nL own Ts ret rm) {pc : Nat} {L : List (Nat × Value)} {st : List Value} {ws : va_W} {x y : UInt64} (hg : vf_n64 (FP.dmul x y)) (hd : decode cc pc = .ok (.dmul, 1)) (kk : xJ l D k o X nL (pc + 1) L (.double (FP.dmul x y) :: st) ws) : xJ l D k o X nL pc L (.double y :: .double x :: st) ws := by
  obtain ⟨p, e, R, s, m, args, below, meth, c, A⟩ := X
  obtain ⟨⟨hx, hb, hml, hown, hts⟩, hK, hA, hr, hlk, hR, ho⟩ := C
  intro H locs ls hP hD hS hl
  refine lv_dmul hx hb hd hg ?_
  exact kk H locs ls hP hD hS hl

theorem xj_ddiv {l : Launch} {D : va_G} {k : Nat → ClassId} {o : xO} {X : xX} {cc : ByteArray} {nL : Nat} {own : String} {Ts : List Cond} {ret : Option FieldType} {rm : Room} (C : xC D k o X cc nL own Ts ret rm) {pc : Nat} {L : List (Nat × Value)} {st : List Value} {ws : va_W} {x y : UInt64} (hg : vf_n64 (FP.ddiv x y)) (hd : decode cc pc = .ok (.ddiv, 1)) (kk : xJ l D k o X nL (pc + 1) L (.double (FP.ddiv x y) :: st) ws) : xJ l D k o X nL pc L (.double y :: .double x :: st) ws := by
  obtain ⟨p, e, R, s, m, args, below, meth, c, A⟩ := X
  obtain ⟨⟨hx, hb, hml, hown, hts⟩, hK, hA, hr, hlk, hR, ho⟩ := C
  intro H locs ls hP hD hS hl
  refine lv_ddiv hx hb hd hg ?_
  exact kk H locs ls hP hD hS hl

def xb_dcmp (op : CmpOp) (x y : UInt64) : Int := (Op.cmpValue (FP.dcmp x y) op).toInt
theorem xj_dcmp {l : Launch} {D : va_G} {k : Nat → ClassId} {o : xO} {X : xX} {cc : ByteArray} {nL : Nat} {own : String} {Ts : List Cond} {ret : Option FieldType} {rm : Room} (C : xC D k o X cc nL own Ts ret rm) {pc : Nat} {L : List (Nat × Value)} {st : List Value} {ws : va_W} {op : CmpOp} {x y : UInt64} (hd : decode cc pc = .ok (.dcmp op, 1)) (kk : xJ l D k o X nL (pc + 1) L (.int (xi (xb_dcmp op x y)) :: st) ws) : xJ l D k o X nL pc L (.double y :: .double x :: st) ws := by
  obtain ⟨p, e, R, s, m, args, below, meth, c, A⟩ := X
  obtain ⟨⟨hx, hb, hml, hown, hts⟩, hK, hA, hr, hlk, hR, ho⟩ := C
  intro H locs ls hP hD hS hl
  refine lv_dcmp hx hb hd ?_
  rw [xb_dcmp, xi_of] at kk
  exact kk H locs ls hP hD hS hl

theorem xj_dup {l : Launch} {D : va_G} {k : Nat → ClassId} {o : xO} {X : xX} {cc : ByteArray} {nL : Nat} {own : String} {Ts : List Cond} {ret : Option FieldType} {rm : Room} (C : xC D k o X cc nL own Ts ret rm) {pc : Nat} {L : List (Nat × Value)} {st : List Value} {ws : va_W} {va : Value} (hv : va.category = 1) (hd : decode cc pc = .ok (.dup, 1)) (kk : xJ l D k o X nL (pc + 1) L (va :: va :: st) ws) : xJ l D k o X nL pc L (va :: st) ws := by
  obtain ⟨p, e, R, s, m, args, below, meth, c, A⟩ := X
  obtain ⟨⟨hx, hb, hml, hown, hts⟩, hK, hA, hr, hlk, hR, ho⟩ := C
  intro H locs ls hP hD hS hl
  refine lv_dup hx hb hd hv ?_
  exact kk H locs ls hP hD hS hl

theorem xj_pop {l : Launch} {D : va_G} {k : Nat → ClassId} {o : xO} {X : xX} {cc : ByteArray} {nL : Nat} {own : String} {Ts : List Cond} {ret : Option FieldType} {rm : Room} (C : xC D k o X cc nL own Ts ret rm) {pc : Nat} {L : List (Nat × Value)} {st : List Value} {ws : va_W} {va : Value} (hv : va.category = 1) (hd : decode cc pc = .ok (.pop, 1)) (kk : xJ l D k o X nL (pc + 1) L (st) ws) : xJ l D k o X nL pc L (va :: st) ws := by
  obtain ⟨p, e, R, s, m, args, below, meth, c, A⟩ := X
  obtain ⟨⟨hx, hb, hml, hown, hts⟩, hK, hA, hr, hlk, hR, ho⟩ := C
  intro H locs ls hP hD hS hl
  refine lv_pop hx hb hd hv ?_
  exact kk H locs ls hP hD hS hl

theorem xj_dup2 {l : Launch} {D : va_G} {k : Nat → ClassId} {o : xO} {X : xX} {cc : ByteArray} {nL : Nat} {own : String} {Ts : List Cond} {ret : Option FieldType} {rm : Room} (C : xC D k o X cc nL own Ts ret rm) {pc : Nat} {L : List (Nat × Value)} {st : List Value} {ws : va_W} {va vb : Value} (hv : va.category = 1) (hv2 : vb.category = 1) (hd : decode cc pc = .ok (.dup2, 1)) (kk : xJ l D k o X nL (pc + 1) L (va :: vb :: va :: vb :: st) ws) : xJ l D k o X nL pc L (va :: vb :: st) ws := by
  obtain ⟨p, e, R, s, m, args, below, meth, c, A⟩ := X
  obtain ⟨⟨hx, hb, hml, hown, hts⟩, hK, hA, hr, hlk, hR, ho⟩ := C
  intro H locs ls hP hD hS hl
  refine lv_dup2_11 hx hb hd hv hv2 ?_
  exact kk H locs ls hP hD hS hl

theorem xj_icmp_lt {l : Launch} {D : va_G} {k : Nat → ClassId} {o : xO} {X : xX} {cc : ByteArray} {nL : Nat} {own : String} {Ts : List Cond} {ret : Option FieldType} {rm : Room} (C : xC D k o X cc nL own Ts ret rm) {pc : Nat} {L : List (Nat × Value)} {st : List Value} {ws : va_W} {off : Int} {tgt : Nat} {x y : Int} (hd : decode cc pc = .ok (.if_icmp .lt off, 3)) (ht : (pc : Int) + off = (tgt : Int)) (hg : xr x ∧ xr y) (kt : x < y → xJ l D k o X nL tgt L st ws) (kf : ¬ x < y → xJ l D k o X nL (pc + 3) L st ws) : xJ l D k o X nL pc L (.int (xi y) :: .int (xi x) :: st) ws := by
  obtain ⟨p, e, R, s, m, args, below, meth, c, A⟩ := X
  obtain ⟨⟨hx, hb, hml, hown, hts⟩, hK, hA, hr, hlk, hR, ho⟩ := C
  intro H locs ls hP hD hS hl
  exact lv_icmp_lt hx hb hd ht (fun c => kt ((xi_lt hg.1 hg.2).mp c) H locs ls hP hD hS hl) (fun c => kf (fun c2 => c ((xi_lt hg.1 hg.2).mpr c2)) H locs ls hP hD hS hl)

theorem xj_icmp_ge {l : Launch} {D : va_G} {k : Nat → ClassId} {o : xO} {X : xX} {cc : ByteArray} {nL : Nat} {own : String} {Ts : List Cond} {ret : Option FieldType} {rm : Room} (C : xC D k o X cc nL own Ts ret rm) {pc : Nat} {L : List (Nat × Value)} {st : List Value} {ws : va_W} {off : Int} {tgt : Nat} {x y : Int} (hd : decode cc pc = .ok (.if_icmp .ge off, 3)) (ht : (pc : Int) + off = (tgt : Int)) (hg : xr x ∧ xr y) (kt : y ≤ x → xJ l D k o X nL tgt L st ws) (kf : ¬ y ≤ x → xJ l D k o X nL (pc + 3) L st ws) : xJ l D k o X nL pc L (.int (xi y) :: .int (xi x) :: st) ws := by
  obtain ⟨p, e, R, s, m, args, below, meth, c, A⟩ := X
  obtain ⟨⟨hx, hb, hml, hown, hts⟩, hK, hA, hr, hlk, hR, ho⟩ := C
  intro H locs ls hP hD hS hl
  exact lv_icmp_ge hx hb hd ht (fun c => kt ((xi_le hg.2 hg.1).mp c) H locs ls hP hD hS hl) (fun c => kf (fun c2 => c ((xi_le hg.2 hg.1).mpr c2)) H locs ls hP hD hS hl)

theorem xj_icmp_gt {l : Launch} {D : va_G} {k : Nat → ClassId} {o : xO} {X : xX} {cc : ByteArray} {nL : Nat} {own : String} {Ts : List Cond} {ret : Option FieldType} {rm : Room} (C : xC D k o X cc nL own Ts ret rm) {pc : Nat} {L : List (Nat × Value)} {st : List Value} {ws : va_W} {off : Int} {tgt : Nat} {x y : Int} (hd : decode cc pc = .ok (.if_icmp .gt off, 3)) (ht : (pc : Int) + off = (tgt : Int)) (hg : xr x ∧ xr y) (kt : y < x → xJ l D k o X nL tgt L st ws) (kf : ¬ y < x → xJ l D k o X nL (pc + 3) L st ws) : xJ l D k o X nL pc L (.int (xi y) :: .int (xi x) :: st) ws := by
  obtain ⟨p, e, R, s, m, args, below, meth, c, A⟩ := X
  obtain ⟨⟨hx, hb, hml, hown, hts⟩, hK, hA, hr, hlk, hR, ho⟩ := C
  intro H locs ls hP hD hS hl
  exact lv_icmp_gt hx hb hd ht (fun c => kt ((xi_lt hg.2 hg.1).mp c) H locs ls hP hD hS hl) (fun c => kf (fun c2 => c ((xi_lt hg.2 hg.1).mpr c2)) H locs ls hP hD hS hl)

theorem xj_icmp_le {l : Launch} {D : va_G} {k : Nat → ClassId} {o : xO} {X : xX} {cc : ByteArray} {nL : Nat} {own : String} {Ts : List Cond} {ret : Option FieldType} {rm : Room} (C : xC D k o X cc nL own Ts ret rm) {pc : Nat} {L : List (Nat × Value)} {st : List Value} {ws : va_W} {off : Int} {tgt : Nat} {x y : Int} (hd : decode cc pc = .ok (.if_icmp .le off, 3)) (ht : (pc : Int) + off = (tgt : Int)) (hg : xr x ∧ xr y) (kt : x ≤ y → xJ l D k o X nL tgt L st ws) (kf : ¬ x ≤ y → xJ l D k o X nL (pc + 3) L st ws) : xJ l D k o X nL pc L (.int (xi y) :: .int (xi x) :: st) ws := by
  obtain ⟨p, e, R, s, m, args, below, meth, c, A⟩ := X
  obtain ⟨⟨hx, hb, hml, hown, hts⟩, hK, hA, hr, hlk, hR, ho⟩ := C
  intro H locs ls hP hD hS hl
  exact lv_icmp_le hx hb hd ht (fun c => kt ((xi_le hg.1 hg.2).mp c) H locs ls hP hD hS hl) (fun c => kf (fun c2 => c ((xi_le hg.1 hg.2).mpr c2)) H locs ls hP hD hS hl)

theorem xj_icmp_eq {l : Launch} {D : va_G} {k : Nat → ClassId} {o : xO} {X : xX} {cc : ByteArray} {nL : Nat} {own : String} {Ts : List Cond} {ret : Option FieldType} {rm : Room} (C : xC D k o X cc nL own Ts ret rm) {pc : Nat} {L : List (Nat × Value)} {st : List Value} {ws : va_W} {off : Int} {tgt : Nat} {x y : Int} (hd : decode cc pc = .ok (.if_icmp .eq off, 3)) (ht : (pc : Int) + off = (tgt : Int)) (hg : xr x ∧ xr y) (kt : x = y → xJ l D k o X nL tgt L st ws) (kf : ¬ x = y → xJ l D k o X nL (pc + 3) L st ws) : xJ l D k o X nL pc L (.int (xi y) :: .int (xi x) :: st) ws := by
  obtain ⟨p, e, R, s, m, args, below, meth, c, A⟩ := X
  obtain ⟨⟨hx, hb, hml, hown, hts⟩, hK, hA, hr, hlk, hR, ho⟩ := C
  intro H locs ls hP hD hS hl
  exact lv_icmp_eq hx hb hd ht (fun c => kt ((xi_eq hg.1 hg.2).mp c) H locs ls hP hD hS hl) (fun c => kf (fun c2 => c ((xi_eq hg.1 hg.2).mpr c2)) H locs ls hP hD hS hl)

theorem xj_icmp_ne {l : Launch} {D : va_G} {k : Nat → ClassId} {o : xO} {X : xX} {cc : ByteArray} {nL : Nat} {own : String} {Ts : List Cond} {ret : Option FieldType} {rm : Room} (C : xC D k o X cc nL own Ts ret rm) {pc : Nat} {L : List (Nat × Value)} {st : List Value} {ws : va_W} {off : Int} {tgt : Nat} {x y : Int} (hd : decode cc pc = .ok (.if_icmp .ne off, 3)) (ht : (pc : Int) + off = (tgt : Int)) (hg : xr x ∧ xr y) (kt : ¬ x = y → xJ l D k o X nL tgt L st ws) (kf : x = y → xJ l D k o X nL (pc + 3) L st ws) : xJ l D k o X nL pc L (.int (xi y) :: .int (xi x) :: st) ws := by
  obtain ⟨p, e, R, s, m, args, below, meth, c, A⟩ := X
  obtain ⟨⟨hx, hb, hml, hown, hts⟩, hK, hA, hr, hlk, hR, ho⟩ := C
  intro H locs ls hP hD hS hl
  exact lv_icmp_ne hx hb hd ht (fun c => kt (fun c2 => c ((xi_eq hg.1 hg.2).mpr c2)) H locs ls hP hD hS hl) (fun c => kf ((xi_eq hg.1 hg.2).mp c) H locs ls hP hD hS hl)

theorem xr_0 : xr 0 := by decide
theorem xj_if_lt {l : Launch} {D : va_G} {k : Nat → ClassId} {o : xO} {X : xX} {cc : ByteArray} {nL : Nat} {own : String} {Ts : List Cond} {ret : Option FieldType} {rm : Room} (C : xC D k o X cc nL own Ts ret rm) {pc : Nat} {L : List (Nat × Value)} {st : List Value} {ws : va_W} {off : Int} {tgt : Nat} {x : Int} (hd : decode cc pc = .ok (.ifCond .lt off, 3)) (ht : (pc : Int) + off = (tgt : Int)) (hg : xr x) (kt : x < 0 → xJ l D k o X nL tgt L st ws) (kf : ¬ x < 0 → xJ l D k o X nL (pc + 3) L st ws) : xJ l D k o X nL pc L (.int (xi x) :: st) ws := by
  obtain ⟨p, e, R, s, m, args, below, meth, c, A⟩ := X
  obtain ⟨⟨hx, hb, hml, hown, hts⟩, hK, hA, hr, hlk, hR, ho⟩ := C
  intro H locs ls hP hD hS hl
  exact lv_if_lt hx hb hd ht (fun c => kt ((xi_lt hg xr_0).mp c) H locs ls hP hD hS hl) (fun c => kf (fun c2 => c ((xi_lt hg xr_0).mpr c2)) H locs ls hP hD hS hl)

theorem xj_if_ge {l : Launch} {D : va_G} {k : Nat → ClassId} {o : xO} {X : xX} {cc : ByteArray} {nL : Nat} {own : String} {Ts : List Cond} {ret : Option FieldType} {rm : Room} (C : xC D k o X cc nL own Ts ret rm) {pc : Nat} {L : List (Nat × Value)} {st : List Value} {ws : va_W} {off : Int} {tgt : Nat} {x : Int} (hd : decode cc pc = .ok (.ifCond .ge off, 3)) (ht : (pc : Int) + off = (tgt : Int)) (hg : xr x) (kt : 0 ≤ x → xJ l D k o X nL tgt L st ws) (kf : ¬ 0 ≤ x → xJ l D k o X nL (pc + 3) L st ws) : xJ l D k o X nL pc L (.int (xi x) :: st) ws := by
  obtain ⟨p, e, R, s, m, args, below, meth, c, A⟩ := X
  obtain ⟨⟨hx, hb, hml, hown, hts⟩, hK, hA, hr, hlk, hR, ho⟩ := C
  intro H locs ls hP hD hS hl
  exact lv_if_ge hx hb hd ht (fun c => kt ((xi_le xr_0 hg).mp c) H locs ls hP hD hS hl) (fun c => kf (fun c2 => c ((xi_le xr_0 hg).mpr c2)) H locs ls hP hD hS hl)

theorem xj_if_gt {l : Launch} {D : va_G} {k : Nat → ClassId} {o : xO} {X : xX} {cc : ByteArray} {nL : Nat} {own : String} {Ts : List Cond} {ret : Option FieldType} {rm : Room} (C : xC D k o X cc nL own Ts ret rm) {pc : Nat} {L : List (Nat × Value)} {st : List Value} {ws : va_W} {off : Int} {tgt : Nat} {x : Int} (hd : decode cc pc = .ok (.ifCond .gt off, 3)) (ht : (pc : Int) + off = (tgt : Int)) (hg : xr x) (kt : 0 < x → xJ l D k o X nL tgt L st ws) (kf : ¬ 0 < x → xJ l D k o X nL (pc + 3) L st ws) : xJ l D k o X nL pc L (.int (xi x) :: st) ws := by
  obtain ⟨p, e, R, s, m, args, below, meth, c, A⟩ := X
  obtain ⟨⟨hx, hb, hml, hown, hts⟩, hK, hA, hr, hlk, hR, ho⟩ := C
  intro H locs ls hP hD hS hl
  exact lv_if_gt hx hb hd ht (fun c => kt ((xi_lt xr_0 hg).mp c) H locs ls hP hD hS hl) (fun c => kf (fun c2 => c ((xi_lt xr_0 hg).mpr c2)) H locs ls hP hD hS hl)

theorem xj_if_le {l : Launch} {D : va_G} {k : Nat → ClassId} {o : xO} {X : xX} {cc : ByteArray} {nL : Nat} {own : String} {Ts : List Cond} {ret : Option FieldType} {rm : Room} (C : xC D k o X cc nL own Ts ret rm) {pc : Nat} {L : List (Nat × Value)} {st : List Value} {ws : va_W} {off : Int} {tgt : Nat} {x : Int} (hd : decode cc pc = .ok (.ifCond .le off, 3)) (ht : (pc : Int) + off = (tgt : Int)) (hg : xr x) (kt : x ≤ 0 → xJ l D k o X nL tgt L st ws) (kf : ¬ x ≤ 0 → xJ l D k o X nL (pc + 3) L st ws) : xJ l D k o X nL pc L (.int (xi x) :: st) ws := by
  obtain ⟨p, e, R, s, m, args, below, meth, c, A⟩ := X
  obtain ⟨⟨hx, hb, hml, hown, hts⟩, hK, hA, hr, hlk, hR, ho⟩ := C
  intro H locs ls hP hD hS hl
  exact lv_if_le hx hb hd ht (fun c => kt ((xi_le hg xr_0).mp c) H locs ls hP hD hS hl) (fun c => kf (fun c2 => c ((xi_le hg xr_0).mpr c2)) H locs ls hP hD hS hl)

theorem xj_if_eq {l : Launch} {D : va_G} {k : Nat → ClassId} {o : xO} {X : xX} {cc : ByteArray} {nL : Nat} {own : String} {Ts : List Cond} {ret : Option FieldType} {rm : Room} (C : xC D k o X cc nL own Ts ret rm) {pc : Nat} {L : List (Nat × Value)} {st : List Value} {ws : va_W} {off : Int} {tgt : Nat} {x : Int} (hd : decode cc pc = .ok (.ifCond .eq off, 3)) (ht : (pc : Int) + off = (tgt : Int)) (hg : xr x) (kt : x = 0 → xJ l D k o X nL tgt L st ws) (kf : ¬ x = 0 → xJ l D k o X nL (pc + 3) L st ws) : xJ l D k o X nL pc L (.int (xi x) :: st) ws := by
  obtain ⟨p, e, R, s, m, args, below, meth, c, A⟩ := X
  obtain ⟨⟨hx, hb, hml, hown, hts⟩, hK, hA, hr, hlk, hR, ho⟩ := C
  intro H locs ls hP hD hS hl
  exact lv_if_eq hx hb hd ht (fun c => kt ((xi_eq hg xr_0).mp c) H locs ls hP hD hS hl) (fun c => kf (fun c2 => c ((xi_eq hg xr_0).mpr c2)) H locs ls hP hD hS hl)

theorem xj_if_ne {l : Launch} {D : va_G} {k : Nat → ClassId} {o : xO} {X : xX} {cc : ByteArray} {nL : Nat} {own : String} {Ts : List Cond} {ret : Option FieldType} {rm : Room} (C : xC D k o X cc nL own Ts ret rm) {pc : Nat} {L : List (Nat × Value)} {st : List Value} {ws : va_W} {off : Int} {tgt : Nat} {x : Int} (hd : decode cc pc = .ok (.ifCond .ne off, 3)) (ht : (pc : Int) + off = (tgt : Int)) (hg : xr x) (kt : ¬ x = 0 → xJ l D k o X nL tgt L st ws) (kf : x = 0 → xJ l D k o X nL (pc + 3) L st ws) : xJ l D k o X nL pc L (.int (xi x) :: st) ws := by
  obtain ⟨p, e, R, s, m, args, below, meth, c, A⟩ := X
  obtain ⟨⟨hx, hb, hml, hown, hts⟩, hK, hA, hr, hlk, hR, ho⟩ := C
  intro H locs ls hP hD hS hl
  exact lv_if_ne hx hb hd ht (fun c => kt (fun c2 => c ((xi_eq hg xr_0).mpr c2)) H locs ls hP hD hS hl) (fun c => kf ((xi_eq hg xr_0).mp c) H locs ls hP hD hS hl)

theorem xj_goto {l : Launch} {D : va_G} {k : Nat → ClassId} {o : xO} {X : xX} {cc : ByteArray} {nL : Nat} {own : String} {Ts : List Cond} {ret : Option FieldType} {rm : Room} (C : xC D k o X cc nL own Ts ret rm) {pc : Nat} {L : List (Nat × Value)} {st : List Value} {ws : va_W} {off : Int} {tgt : Nat} (hd : decode cc pc = .ok (.goto off, 3)) (ht : (pc : Int) + off = (tgt : Int)) (kk : xJ l D k o X nL tgt L st ws) : xJ l D k o X nL pc L st ws := by
  obtain ⟨p, e, R, s, m, args, below, meth, c, A⟩ := X
  obtain ⟨⟨hx, hb, hml, hown, hts⟩, hK, hA, hr, hlk, hR, ho⟩ := C
  intro H locs ls hP hD hS hl
  exact lv_goto hx hb hd ht (kk H locs ls hP hD hS hl)

theorem xj_iald {l : Launch} {D : va_G} {k : Nat → ClassId} {o : xO} {X : xX} {cc : ByteArray} {nL : Nat} {own : String} {Ts : List Cond} {ret : Option FieldType} {rm : Room} (C : xC D k o X cc nL own Ts ret rm) {pc : Nat} {L : List (Nat × Value)} {st : List Value} {ws : va_W} (q0 : Nat) {a n : Nat} (S : Nat → Int → Int) (q : Nat) (ha : ws[q0]? = some (a, .inl (k 0, n, .inl (fun j => xi (S q (j : Int)))))) (hn : n < 2147483648) {i : Int} (hg : 0 ≤ i ∧ i < (n : Int)) (hd : decode cc pc = .ok (.iaload, 1)) (kk : xJ l D k o X nL (pc + 1) L (.int (xi (S q i)) :: st) ws) : xJ l D k o X nL pc L (.int (xi i) :: .ref a :: st) ws := by
  obtain ⟨p, e, R, s, m, args, below, meth, c, A⟩ := X
  obtain ⟨⟨hx, hb, hml, hown, hts⟩, hK, hA, hr, hlk, hR, ho⟩ := C
  intro H locs ls hP hD hS hl
  refine va_iald hx hb hK hP q0 0 ha rfl (xi_in hg hn) hd ?_
  rw [xi_cl ⟨hg.1, by omega⟩, Int.toNat_of_nonneg hg.1]
  exact kk H locs ls hP hD hS hl

theorem xj_zald {l : Launch} {D : va_G} {k : Nat → ClassId} {o : xO} {X : xX} {cc : ByteArray} {nL : Nat} {own : String} {Ts : List Cond} {ret : Option FieldType} {rm : Room} (C : xC D k o X cc nL own Ts ret rm) {pc : Nat} {L : List (Nat × Value)} {st : List Value} {ws : va_W} (q0 : Nat) {a n : Nat} (S : Nat → Int → Int) (q : Nat) (ha : ws[q0]? = some (a, .inl (k 1, n, .inl (fun j => xi (S q (j : Int)))))) (hn : n < 2147483648) {i : Int} (hg : 0 ≤ i ∧ i < (n : Int)) (hd : decode cc pc = .ok (.baload, 1)) (kk : xJ l D k o X nL (pc + 1) L (.int (xi (S q i)) :: st) ws) : xJ l D k o X nL pc L (.int (xi i) :: .ref a :: st) ws := by
  obtain ⟨p, e, R, s, m, args, below, meth, c, A⟩ := X
  obtain ⟨⟨hx, hb, hml, hown, hts⟩, hK, hA, hr, hlk, hR, ho⟩ := C
  intro H locs ls hP hD hS hl
  refine va_zald hx hb hK hP q0 1 ha rfl (xi_in hg hn) hd ?_
  rw [xi_cl ⟨hg.1, by omega⟩, Int.toNat_of_nonneg hg.1]
  exact kk H locs ls hP hD hS hl

theorem xj_lald {l : Launch} {D : va_G} {k : Nat → ClassId} {o : xO} {X : xX} {cc : ByteArray} {nL : Nat} {own : String} {Ts : List Cond} {ret : Option FieldType} {rm : Room} (C : xC D k o X cc nL own Ts ret rm) {pc : Nat} {L : List (Nat × Value)} {st : List Value} {ws : va_W} (q0 : Nat) {a n : Nat} (S : Nat → Int → Int) (q : Nat) (ha : ws[q0]? = some (a, .inl (k 2, n, .inr (.inl (fun j => Int64.ofInt (S q (j : Int))))))) (hn : n < 2147483648) {i : Int} (hg : 0 ≤ i ∧ i < (n : Int)) (hd : decode cc pc = .ok (.laload, 1)) (kk : xJ l D k o X nL (pc + 1) L (.long (Int64.ofInt (S q i)) :: st) ws) : xJ l D k o X nL pc L (.int (xi i) :: .ref a :: st) ws := by
  obtain ⟨p, e, R, s, m, args, below, meth, c, A⟩ := X
  obtain ⟨⟨hx, hb, hml, hown, hts⟩, hK, hA, hr, hlk, hR, ho⟩ := C
  intro H locs ls hP hD hS hl
  refine va_lald hx hb hK hP q0 2 ha rfl (xi_in hg hn) hd ?_
  rw [xi_cl ⟨hg.1, by omega⟩, Int.toNat_of_nonneg hg.1]
  exact kk H locs ls hP hD hS hl

theorem xj_dald {l : Launch} {D : va_G} {k : Nat → ClassId} {o : xO} {X : xX} {cc : ByteArray} {nL : Nat} {own : String} {Ts : List Cond} {ret : Option FieldType} {rm : Room} (C : xC D k o X cc nL own Ts ret rm) {pc : Nat} {L : List (Nat × Value)} {st : List Value} {ws : va_W} (q0 : Nat) {a n : Nat} (S : Nat → Int → Int) (q : Nat) (ha : ws[q0]? = some (a, .inl (k 3, n, .inr (.inr (.inr (.inl (fun j => UInt64.ofNat (S q (j : Int)).toNat))))))) (hn : n < 2147483648) {i : Int} (hg : 0 ≤ i ∧ i < (n : Int)) (hd : decode cc pc = .ok (.daload, 1)) (kk : xJ l D k o X nL (pc + 1) L (.double (UInt64.ofNat (S q i).toNat) :: st) ws) : xJ l D k o X nL pc L (.int (xi i) :: .ref a :: st) ws := by
  obtain ⟨p, e, R, s, m, args, below, meth, c, A⟩ := X
  obtain ⟨⟨hx, hb, hml, hown, hts⟩, hK, hA, hr, hlk, hR, ho⟩ := C
  intro H locs ls hP hD hS hl
  refine va_dald hx hb hK hP q0 3 ha rfl (xi_in hg hn) hd ?_
  rw [xi_cl ⟨hg.1, by omega⟩, Int.toNat_of_nonneg hg.1]
  exact kk H locs ls hP hD hS hl

theorem xu_i (S : Nat → Int → Int) (q : Nat) {i : Int} (v : Int) (h : 0 ≤ i) : upd (fun j : Nat => xi (S q (j : Int))) i.toNat (xi v) = fun j : Nat => xi (xup S q i v q (j : Int)) := by
  funext j
  by_cases hj : j = i.toNat
  · subst hj
    rw [show ((i.toNat : Nat) : Int) = i by omega, xup_s]
    exact if_pos rfl
  · rw [xup_i S q v (by omega : (j : Int) ≠ i)]
    exact if_neg hj
theorem xu_l (S : Nat → Int → Int) (q : Nat) {i : Int} (v : Int64) (h : 0 ≤ i) : vp_updL (fun j : Nat => Int64.ofInt (S q (j : Int))) i.toNat v = fun j : Nat => Int64.ofInt (xup S q i v.toInt q (j : Int)) := by
  funext j
  by_cases hj : j = i.toNat
  · subst hj
    rw [show ((i.toNat : Nat) : Int) = i by omega, xup_s, Int64.ofInt_toInt]
    exact if_pos rfl
  · rw [xup_i S q _ (by omega : (j : Int) ≠ i)]
    exact if_neg hj
theorem xu_d (S : Nat → Int → Int) (q : Nat) {i : Int} (v : UInt64) (h : 0 ≤ i) : vf_upd (fun j : Nat => UInt64.ofNat (S q (j : Int)).toNat) i.toNat v = fun j : Nat => UInt64.ofNat (xup S q i (v.toNat : Int) q (j : Int)).toNat := by
  funext j
  by_cases hj : j = i.toNat
  · subst hj
    rw [show ((i.toNat : Nat) : Int) = i by omega, xup_s, Int.toNat_natCast, UInt64.ofNat_toNat]
    exact if_pos rfl
  · rw [xup_i S q _ (by omega : (j : Int) ≠ i)]
    exact if_neg hj
theorem xu_z {v : Int} (h : v = 0 ∨ v = 1) : vp_nar .boolean (xi v) = xi v := by
  rcases h with rfl | rfl <;> decide
theorem xj_iast {l : Launch} {D : va_G} {k : Nat → ClassId} {o : xO} {X : xX} {cc : ByteArray} {nL : Nat} {own : String} {Ts : List Cond} {ret : Option FieldType} {rm : Room} (C : xC D k o X cc nL own Ts ret rm) {pc : Nat} {L : List (Nat × Value)} {st : List Value} {ws : va_W} (q0 : Nat) {a n : Nat} (S : Nat → Int → Int) (q : Nat) {ws1 : va_W} (ha : ws[q0]? = some (a, .inl (k 0, n, .inl (fun j => xi (S q (j : Int)))))) (hn : n < 2147483648) {i : Int} {v : Int} (hg : 0 ≤ i ∧ i < (n : Int)) (hw : ws.set q0 (a, .inl (k 0, n, .inl (fun j => xi (xup S q i v q (j : Int))))) = ws1) (hd : decode cc pc = .ok (.iastore, 1)) (kk : xJ l D k o X nL (pc + 1) L st ws1) : xJ l D k o X nL pc L (.int (xi v) :: .int (xi i) :: .ref a :: st) ws := by
  obtain ⟨p, e, R, s, m, args, below, meth, c, A⟩ := X
  obtain ⟨⟨hx, hb, hml, hown, hts⟩, hK, hA, hr, hlk, hR, ho⟩ := C
  intro H locs ls hP hD hS hl
  refine va_iast hx hb hK hP hD hS q0 0 ha rfl (xi_in hg hn) hd ?_
  rw [xi_cl ⟨hg.1, by omega⟩, xu_i S q v hg.1, hw]
  exact fun H1 locs1 hP1 hD1 hS1 => kk H1 locs1 ls hP1 hD1 hS1 hl

theorem xj_zast {l : Launch} {D : va_G} {k : Nat → ClassId} {o : xO} {X : xX} {cc : ByteArray} {nL : Nat} {own : String} {Ts : List Cond} {ret : Option FieldType} {rm : Room} (C : xC D k o X cc nL own Ts ret rm) {pc : Nat} {L : List (Nat × Value)} {st : List Value} {ws : va_W} (q0 : Nat) {a n : Nat} (S : Nat → Int → Int) (q : Nat) {ws1 : va_W} (ha : ws[q0]? = some (a, .inl (k 1, n, .inl (fun j => xi (S q (j : Int)))))) (hn : n < 2147483648) {i : Int} {v : Int} (hz : v = 0 ∨ v = 1) (hg : 0 ≤ i ∧ i < (n : Int)) (hw : ws.set q0 (a, .inl (k 1, n, .inl (fun j => xi (xup S q i v q (j : Int))))) = ws1) (hd : decode cc pc = .ok (.bastore, 1)) (kk : xJ l D k o X nL (pc + 1) L st ws1) : xJ l D k o X nL pc L (.int (xi v) :: .int (xi i) :: .ref a :: st) ws := by
  obtain ⟨p, e, R, s, m, args, below, meth, c, A⟩ := X
  obtain ⟨⟨hx, hb, hml, hown, hts⟩, hK, hA, hr, hlk, hR, ho⟩ := C
  intro H locs ls hP hD hS hl
  refine va_zast hx hb hK hP hD hS q0 1 ha rfl (xi_in hg hn) hd ?_
  rw [xi_cl ⟨hg.1, by omega⟩, xu_z hz, xu_i S q v hg.1, hw]
  exact fun H1 locs1 hP1 hD1 hS1 => kk H1 locs1 ls hP1 hD1 hS1 hl

theorem xj_last {l : Launch} {D : va_G} {k : Nat → ClassId} {o : xO} {X : xX} {cc : ByteArray} {nL : Nat} {own : String} {Ts : List Cond} {ret : Option FieldType} {rm : Room} (C : xC D k o X cc nL own Ts ret rm) {pc : Nat} {L : List (Nat × Value)} {st : List Value} {ws : va_W} (q0 : Nat) {a n : Nat} (S : Nat → Int → Int) (q : Nat) {ws1 : va_W} (ha : ws[q0]? = some (a, .inl (k 2, n, .inr (.inl (fun j => Int64.ofInt (S q (j : Int))))))) (hn : n < 2147483648) {i : Int} {v : Int64} (hg : 0 ≤ i ∧ i < (n : Int)) (hw : ws.set q0 (a, .inl (k 2, n, .inr (.inl (fun j => Int64.ofInt (xup S q i v.toInt q (j : Int)))))) = ws1) (hd : decode cc pc = .ok (.lastore, 1)) (kk : xJ l D k o X nL (pc + 1) L st ws1) : xJ l D k o X nL pc L (.long v :: .int (xi i) :: .ref a :: st) ws := by
  obtain ⟨p, e, R, s, m, args, below, meth, c, A⟩ := X
  obtain ⟨⟨hx, hb, hml, hown, hts⟩, hK, hA, hr, hlk, hR, ho⟩ := C
  intro H locs ls hP hD hS hl
  refine va_last hx hb hK hP hD hS q0 2 ha rfl (xi_in hg hn) hd ?_
  rw [xi_cl ⟨hg.1, by omega⟩, xu_l S q v hg.1, hw]
  exact fun H1 locs1 hP1 hD1 hS1 => kk H1 locs1 ls hP1 hD1 hS1 hl

theorem xj_dast {l : Launch} {D : va_G} {k : Nat → ClassId} {o : xO} {X : xX} {cc : ByteArray} {nL : Nat} {own : String} {Ts : List Cond} {ret : Option FieldType} {rm : Room} (C : xC D k o X cc nL own Ts ret rm) {pc : Nat} {L : List (Nat × Value)} {st : List Value} {ws : va_W} (q0 : Nat) {a n : Nat} (S : Nat → Int → Int) (q : Nat) {ws1 : va_W} (ha : ws[q0]? = some (a, .inl (k 3, n, .inr (.inr (.inr (.inl (fun j => UInt64.ofNat (S q (j : Int)).toNat))))))) (hn : n < 2147483648) {i : Int} {v : UInt64} (hg : 0 ≤ i ∧ i < (n : Int)) (hw : ws.set q0 (a, .inl (k 3, n, .inr (.inr (.inr (.inl (fun j => UInt64.ofNat (xup S q i (v.toNat : Int) q (j : Int)).toNat)))))) = ws1) (hd : decode cc pc = .ok (.dastore, 1)) (kk : xJ l D k o X nL (pc + 1) L st ws1) : xJ l D k o X nL pc L (.double v :: .int (xi i) :: .ref a :: st) ws := by
  obtain ⟨p, e, R, s, m, args, below, meth, c, A⟩ := X
  obtain ⟨⟨hx, hb, hml, hown, hts⟩, hK, hA, hr, hlk, hR, ho⟩ := C
  intro H locs ls hP hD hS hl
  refine va_dast hx hb hK hP hD hS q0 3 ha rfl (xi_in hg hn) hd ?_
  rw [xi_cl ⟨hg.1, by omega⟩, xu_d S q v hg.1, hw]
  exact fun H1 locs1 hP1 hD1 hS1 => kk H1 locs1 ls hP1 hD1 hS1 hl

theorem xj_get {l : Launch} {D : va_G} {k : Nat → ClassId} {o : xO} {X : xX} {cc : ByteArray} {nL : Nat} {own : String} {Ts : List Cond} {ret : Option FieldType} {rm : Room} (C : xC D k o X cc nL own Ts ret rm) {pc : Nat} {L : List (Nat × Value)} {st : List Value} {ws : va_W} {Cn : String} {T : u_T} {N ci index a : Nat} (hin : ∀ w ∈ u_ws Cn T N, w ∈ Ts) (q0 : Nat) {fs : List Value} (he : ws[q0]? = some (a, .inr (ci, fs))) (hc : vwCl[ci]? = some (Cn, T, N)) (f : Nat) (hf : f < N) (hlink : (Cond.fieldLink own index Cn (T f).2.1 (T f).2.2.1) ∈ Ts) (hsm : ∀ s : State, ∀ x, s.fieldFound? (T f).1 (T f).2.1 (T f).2.2.1 = some x → s.fieldFound? Cn (T f).2.1 (T f).2.2.1 = some x) {v : Value} (hv : fs[f]? = some v) (hd : decode cc pc = .ok (.getfield index, 3)) (kk : xJ l D k o X nL (pc + 3) L (v :: st) ws) : xJ l D k o X nL pc L (.ref a :: st) ws := by
  obtain ⟨p, e, R, s, m, args, below, meth, c, A⟩ := X
  obtain ⟨⟨hx, hb, hml, hown, hts⟩, hK, hA, hr, hlk, hR, ho⟩ := C
  intro H locs ls hP hD hS hl
  have hsame : ∀ x, s.fieldFound? (T f).1 (T f).2.1 (T f).2.2.1 = some x → s.fieldFound? Cn (T f).2.1 (T f).2.2.1 = some x := hsm s
  exact va_get hx hb hts hin hown hK hP q0 he hc f hf (hts _ hlink) hsame hv hd (kk H locs ls hP hD hS hl)

theorem xj_put {l : Launch} {D : va_G} {k : Nat → ClassId} {o : xO} {X : xX} {cc : ByteArray} {nL : Nat} {own : String} {Ts : List Cond} {ret : Option FieldType} {rm : Room} (C : xC D k o X cc nL own Ts ret rm) {pc : Nat} {L : List (Nat × Value)} {st : List Value} {ws : va_W} {Cn : String} {T : u_T} {N ci index a : Nat} {ws1 : va_W} (hin : ∀ w ∈ u_ws Cn T N, w ∈ Ts) (ty0 : Nat → FieldType) (hty : ∀ k, k < N → parseFieldDescriptor (T k).2.2.1 = some (ty0 k)) (hnm : ∀ a, a < N → ∀ b, b < N → a ≠ b → (T a).2.1 ≠ (T b).2.1) (q0 : Nat) {fs : List Value} (he : ws[q0]? = some (a, .inr (ci, fs))) (hc : vwCl[ci]? = some (Cn, T, N)) (f : Nat) (hf : f < N) (hlink : (Cond.fieldLink own index Cn (T f).2.1 (T f).2.2.1) ∈ Ts) (hsm : ∀ s : State, ∀ x, s.fieldFound? (T f).1 (T f).2.1 (T f).2.2.1 = some x → s.fieldFound? Cn (T f).2.1 (T f).2.2.1 = some x) (hfin : (T f).2.2.2 = false) {v : Int} (hdd : parseFieldDescriptor (T f).2.2.1 = some .int) (hl1 : f < fs.length) (hw : ws.set q0 (a, .inr (ci, fs.set f (.int (xi v)))) = ws1) (hd : decode cc pc = .ok (.putfield index, 3)) (kk : xJ l D k o X nL (pc + 3) L st ws1) : xJ l D k o X nL pc L (.int (xi v) :: .ref a :: st) ws := by
  obtain ⟨p, e, R, s, m, args, below, meth, c, A⟩ := X
  obtain ⟨⟨hx, hb, hml, hown, hts⟩, hK, hA, hr, hlk, hR, ho⟩ := C
  intro H locs ls hP hD hS hl
  subst hw
  exact va_put hx hb hts hin ty0 hty hnm hown hK hP hD hS q0 he hc f hf (hts _ hlink) (hsm s) hfin hdd rfl rfl hl1 hd (fun H1 locs1 hP1 hD1 hS1 => kk H1 locs1 ls hP1 hD1 hS1 hl)

def xb_min (x y : Int) : Int := if y < x then y else x
theorem xj_mmin {l : Launch} {D : va_G} {k : Nat → ClassId} {o : xO} {X : xX} {cc : ByteArray} {nL : Nat} {own : String} {Ts : List Cond} {ret : Option FieldType} {rm : Room} (C : xC D k o X cc nL own Ts ret rm) {pc : Nat} {L : List (Nat × Value)} {st : List Value} {ws : va_W} {x y : Int} {index : Nat} (hg : xr x ∧ xr y) (hlink : Cond.methodLink own index Lib.Math.min.name ∈ Ts) (hstat : Cond.static Lib.Math.min.name ∈ Ts) (hini : Cond.initialized "java/lang/Math" ∈ Ts) (hcode : Cond.code Lib.Math.min.name Lib.Math.min.code 2 (some .int) ∈ Ts) (hf : 1 ≤ rm.frames) (hlo : (st.map fun v => v.category).sum + 13 ≤ rm.locals) (hd : decode cc pc = .ok (.invokestatic index, 3)) (kk : xJ l D k o X nL (pc + 3) L (.int (xi (xb_min x y)) :: st) ws) : xJ l D k o X nL pc L (.int (xi y) :: .int (xi x) :: st) ws := by
  obtain ⟨p, e, R, s, m, args, below, meth, c, A⟩ := X
  obtain ⟨⟨hx, hb, hml, hown, hts⟩, hK, hA, hr, hlk, hR, ho⟩ := C
  intro H locs ls hP hD hS hl
  refine va_mmin hx hb (hml.trans hl.1.symm) hown (hts _ hlink) (hts _ hstat) (hts _ hini) (hts _ hcode) (by rw [hR]; exact hf) (by rw [hR]; exact hlo) ho.1 ho.2 hd ?_
  have e : (if xi y < xi x then xi y else xi x) = xi (xb_min x y) := by
    unfold xb_min
    by_cases h : y < x
    · rw [if_pos h, if_pos ((xi_lt hg.2 hg.1).mpr h)]
    · rw [if_neg h, if_neg (fun h2 => h ((xi_lt hg.2 hg.1).mp h2))]
  rw [e]
  exact kk H locs ls hP hD hS hl

def xb_max (x y : Int) : Int := if x < y then y else x
theorem xj_mmax {l : Launch} {D : va_G} {k : Nat → ClassId} {o : xO} {X : xX} {cc : ByteArray} {nL : Nat} {own : String} {Ts : List Cond} {ret : Option FieldType} {rm : Room} (C : xC D k o X cc nL own Ts ret rm) {pc : Nat} {L : List (Nat × Value)} {st : List Value} {ws : va_W} {x y : Int} {index : Nat} (hg : xr x ∧ xr y) (hlink : Cond.methodLink own index Lib.Math.max.name ∈ Ts) (hstat : Cond.static Lib.Math.max.name ∈ Ts) (hini : Cond.initialized "java/lang/Math" ∈ Ts) (hcode : Cond.code Lib.Math.max.name Lib.Math.max.code 2 (some .int) ∈ Ts) (hf : 1 ≤ rm.frames) (hlo : (st.map fun v => v.category).sum + 13 ≤ rm.locals) (hd : decode cc pc = .ok (.invokestatic index, 3)) (kk : xJ l D k o X nL (pc + 3) L (.int (xi (xb_max x y)) :: st) ws) : xJ l D k o X nL pc L (.int (xi y) :: .int (xi x) :: st) ws := by
  obtain ⟨p, e, R, s, m, args, below, meth, c, A⟩ := X
  obtain ⟨⟨hx, hb, hml, hown, hts⟩, hK, hA, hr, hlk, hR, ho⟩ := C
  intro H locs ls hP hD hS hl
  refine va_mmax hx hb (hml.trans hl.1.symm) hown (hts _ hlink) (hts _ hstat) (hts _ hini) (hts _ hcode) (by rw [hR]; exact hf) (by rw [hR]; exact hlo) ho.1 ho.2 hd ?_
  have e : (if xi x < xi y then xi y else xi x) = xi (xb_max x y) := by
    unfold xb_max
    by_cases h : x < y
    · rw [if_pos h, if_pos ((xi_lt hg.1 hg.2).mpr h)]
    · rw [if_neg h, if_neg (fun h2 => h ((xi_lt hg.1 hg.2).mp h2))]
  rw [e]
  exact kk H locs ls hP hD hS hl

theorem xj_iret {l : Launch} {D : va_G} {k : Nat → ClassId} {wf : va_W} {X : xX} {cc : ByteArray} {nL : Nat} {own : String} {Ts : List Cond} {rt : Option FieldType} {rm : Room} {v : Int} (C : xC D k (xo X D k (some (.int (xi v))) wf) X cc nL own Ts rt rm) {pc : Nat} {L : List (Nat × Value)} (hrt : rt = some .int) (hd : decode cc pc = .ok (.ireturn, 1)) : xJ l D k (xo X D k (some (.int (xi v))) wf) X nL pc L [.int (xi v)] wf := by
  obtain ⟨p, e, R, s, m, args, below, meth, c, A⟩ := X
  obtain ⟨⟨hx, hb, hml, hown, hts⟩, hK, hA, hr, hlk, hR, ho⟩ := C
  intro H locs ls hP hD hS hl
  subst hrt
  exact W.iret hx hb hr (fun t ht hW => ⟨⟨rfl, by rw [ht]; exact hP, va_K.moved hW.alike hK, hD⟩, hS.F ht⟩) hS.2.2 hd hlk

theorem xj_zret {l : Launch} {D : va_G} {k : Nat → ClassId} {wf : va_W} {X : xX} {cc : ByteArray} {nL : Nat} {own : String} {Ts : List Cond} {rt : Option FieldType} {rm : Room} {v : Int} (hz : v = 0 ∨ v = 1) (C : xC D k (xo X D k (some (.int (xi v))) wf) X cc nL own Ts rt rm) {pc : Nat} {L : List (Nat × Value)} (hrt : rt = some .boolean) (hd : decode cc pc = .ok (.ireturn, 1)) : xJ l D k (xo X D k (some (.int (xi v))) wf) X nL pc L [.int (xi v)] wf := by
  obtain ⟨p, e, R, s, m, args, below, meth, c, A⟩ := X
  obtain ⟨⟨hx, hb, hml, hown, hts⟩, hK, hA, hr, hlk, hR, ho⟩ := C
  intro H locs ls hP hD hS hl
  subst hrt
  exact W.zret hx hb hr (by rcases hz with rfl | rfl <;> rfl) (fun t ht hW => ⟨⟨rfl, by rw [ht]; exact hP, va_K.moved hW.alike hK, hD⟩, hS.F ht⟩) hS.2.2 hd hlk

theorem xj_lret {l : Launch} {D : va_G} {k : Nat → ClassId} {wf : va_W} {X : xX} {cc : ByteArray} {nL : Nat} {own : String} {Ts : List Cond} {rt : Option FieldType} {rm : Room} {v : Int64} (C : xC D k (xo X D k (some (.long v)) wf) X cc nL own Ts rt rm) {pc : Nat} {L : List (Nat × Value)} (hrt : rt = some .long) (hd : decode cc pc = .ok (.lreturn, 1)) : xJ l D k (xo X D k (some (.long v)) wf) X nL pc L [.long v] wf := by
  obtain ⟨p, e, R, s, m, args, below, meth, c, A⟩ := X
  obtain ⟨⟨hx, hb, hml, hown, hts⟩, hK, hA, hr, hlk, hR, ho⟩ := C
  intro H locs ls hP hD hS hl
  subst hrt
  exact W.lret hx hb hr (fun t ht hW => ⟨⟨rfl, by rw [ht]; exact hP, va_K.moved hW.alike hK, hD⟩, hS.F ht⟩) hS.2.2 hd hlk

theorem xj_dret {l : Launch} {D : va_G} {k : Nat → ClassId} {wf : va_W} {X : xX} {cc : ByteArray} {nL : Nat} {own : String} {Ts : List Cond} {rt : Option FieldType} {rm : Room} {v : UInt64} (C : xC D k (xo X D k (some (.double v)) wf) X cc nL own Ts rt rm) {pc : Nat} {L : List (Nat × Value)} (hrt : rt = some .double) (hd : decode cc pc = .ok (.dreturn, 1)) : xJ l D k (xo X D k (some (.double v)) wf) X nL pc L [.double v] wf := by
  obtain ⟨p, e, R, s, m, args, below, meth, c, A⟩ := X
  obtain ⟨⟨hx, hb, hml, hown, hts⟩, hK, hA, hr, hlk, hR, ho⟩ := C
  intro H locs ls hP hD hS hl
  subst hrt
  exact W.dret hx hb hr (fun t ht hW => ⟨⟨rfl, by rw [ht]; exact hP, va_K.moved hW.alike hK, hD⟩, hS.F ht⟩) hS.2.2 hd hlk

theorem xj_vret {l : Launch} {D : va_G} {k : Nat → ClassId} {wf : va_W} {X : xX} {cc : ByteArray} {nL : Nat} {own : String} {Ts : List Cond} {rt : Option FieldType} {rm : Room}  (C : xC D k (xo X D k (none) wf) X cc nL own Ts rt rm) {pc : Nat} {L : List (Nat × Value)} (hrt : rt = none) (hd : decode cc pc = .ok (.return_, 1)) : xJ l D k (xo X D k (none) wf) X nL pc L [] wf := by
  obtain ⟨p, e, R, s, m, args, below, meth, c, A⟩ := X
  obtain ⟨⟨hx, hb, hml, hown, hts⟩, hK, hA, hr, hlk, hR, ho⟩ := C
  intro H locs ls hP hD hS hl
  subst hrt
  exact W.vret hx hb hr (fun t ht hW => ⟨⟨rfl, by rw [ht]; exact hP, va_K.moved hW.alike hK, hD⟩, hS.F ht⟩) hS.2.2 hd hlk

