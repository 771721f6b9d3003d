/-! making objects and arrays; constructors; calls with a part of the world; the two static rows (by program: wip/whole/mkctors.py) -/
def xIn (X : xX) : Prop := match X with
  | (_, _, _, _, _, _, _, meth, _, _) => meth.name = "<init>"
theorem xj_objInit {l : Launch} {D : va_G} {k : Nat → ClassId} {o : xO} {X : xX} {cc : ByteArray} {nL : Nat} {own : String} {Ts : List Cond} {ret : Option FieldType} {rm : Room} (C : xC D k o X cc nL own Ts ret rm) {pc : Nat} {L : List (Nat × Value)} {st : List Value} {ws : va_W} {idx a : Nat} (hlink : Cond.methodLink own idx objectInit ∈ Ts) (hinst : Cond.instanceMethod objectInit ∈ Ts) (hcode : Cond.code objectInit ⟨#[0xb1]⟩ 1 none ∈ Ts) (hf : 1 ≤ rm.frames) (hlo : (st.map fun v => v.category).sum + 12 ≤ rm.locals) (hd : decode cc pc = .ok (.invokespecial idx, 3)) (kk : xJ l D k o X nL (pc + 3) L st ws) : xJ l D k o X nL pc L (.ref a :: st) ws := by
  obtain ⟨p, e, R, s, m, args, below, meth, c, A⟩ := X
  obtain ⟨⟨hx, hb, hml, hown, hts⟩, hK, hA, hr, hlk, hR, ho⟩ := C
  intro H locs ls hP hD hS hl
  subst hR
  have e0 : (F0 m pc ls (.ref a :: st)).monitorRoom = 0 := rfl
  refine W.objInit hx hb hown (hts _ hlink) (hts _ hinst) (hts _ hcode) rfl (by rw [hml]; exact hl.1) rfl hd hf (by rw [e0]; omega) ?_
  exact W.eq (g2 := F0 m (pc + 3) ls st) rfl (kk H locs ls hP hD hS hl)
theorem xj_newI {l : Launch} {D : va_G} {k : Nat → ClassId} {cs sl : Nat} {Q : State → Prop} {X : xX} {cc : ByteArray} {nL : Nat} {own : String} {Ts : List Cond} {ret : Option FieldType} {rm : Room} (C : xC D k (cs, sl, Q) X cc nL own Ts ret rm) {pc : Nat} {L : List (Nat × Value)} {st : List Value} {ws : va_W} {n : Int} {N : Nat} (S : Nat → Int → Int) (q : Nat) (hS0 : ∀ i, S q i = 0) (hN : n = (N : Int)) (hlt : N < 100000) (harr : Cond.arrayClass .int ∈ Ts) (hroom : cs + 1 ≤ rm.cells ∧ sl + N ≤ rm.slots) (hd : decode cc pc = .ok (.newarray .int, 2))
    (kk : ∀ a : Nat, xC D k (cs + 1, sl + N, Q) X cc nL own Ts ret rm → xJ l D k (cs + 1, sl + N, Q) X nL (pc + 2) L (.ref a :: st) (ws ++ [(a, .inl (k 0, N, .inl (fun j => xi (S q (j : Int)))))])) : xJ l D k (cs, sl, Q) X nL pc L (.int (xi n) :: st) ws := by
  obtain ⟨p, e, R, s, m, args, below, meth, c, A⟩ := X
  obtain ⟨⟨hx, hb, hml, hown, hts⟩, hK, hA, hr, hlk, hR, ho⟩ := C
  intro H locs ls hP hD hS hl
  subst hR
  subst hN
  have hn : ¬ xi (N : Int) < 0 := fun h => by
    have h2 := (xi_lt (x := (N : Int)) (y := 0) ⟨by omega, by omega⟩ xr_0).mp h
    omega
  refine va_newa hx hb (atype := .int) (hts _ harr) rfl hK hP hD hS hA (N' := N) (a0 := (N, .inl (fun j => xi (S q (j : Int))))) (fun cA => ?_) hn (by rw [xi_cl ⟨by omega, by omega⟩]; omega) (show N * _ ≤ _ from Nat.le_trans (Nat.mul_le_mul_right _ (Nat.le_of_lt hlt)) (by decide)) hroom.1 hroom.2 hd (fun a cA H1 hK1 hP1 hD1 hS1 => ?_)
  · simp only [vp_cell, hS0]
    rfl
  · have e1 : cA = k 0 := by
      have h1 := (hK1.2 4 (cA, .int) rfl).2
      have h2 := (hK.2 0 (k 0, .int) rfl).2
      exact Option.some.inj (h1.symm.trans h2)
    subst e1
    exact kk a ⟨⟨hx, hb, hml, hown, hts⟩, hK, hA, hr, hlk, rfl, hroom⟩ H1 locs ls hP1 hD1 hS1 hl
theorem xj_newZ {l : Launch} {D : va_G} {k : Nat → ClassId} {cs sl : Nat} {Q : State → Prop} {X : xX} {cc : ByteArray} {nL : Nat} {own : String} {Ts : List Cond} {ret : Option FieldType} {rm : Room} (C : xC D k (cs, sl, Q) X cc nL own Ts ret rm) {pc : Nat} {L : List (Nat × Value)} {st : List Value} {ws : va_W} {n : Int} {N : Nat} (S : Nat → Int → Int) (q : Nat) (hS0 : ∀ i, S q i = 0) (hN : n = (N : Int)) (hlt : N < 100000) (harr : Cond.arrayClass .boolean ∈ Ts) (hroom : cs + 1 ≤ rm.cells ∧ sl + N ≤ rm.slots) (hd : decode cc pc = .ok (.newarray .boolean, 2))
    (kk : ∀ a : Nat, xC D k (cs + 1, sl + N, Q) X cc nL own Ts ret rm → xJ l D k (cs + 1, sl + N, Q) X nL (pc + 2) L (.ref a :: st) (ws ++ [(a, .inl (k 1, N, .inl (fun j => xi (S q (j : Int)))))])) : xJ l D k (cs, sl, Q) X nL pc L (.int (xi n) :: st) ws := by
  obtain ⟨p, e, R, s, m, args, below, meth, c, A⟩ := X
  obtain ⟨⟨hx, hb, hml, hown, hts⟩, hK, hA, hr, hlk, hR, ho⟩ := C
  intro H locs ls hP hD hS hl
  subst hR
  subst hN
  have hn : ¬ xi (N : Int) < 0 := fun h => by
    have h2 := (xi_lt (x := (N : Int)) (y := 0) ⟨by omega, by omega⟩ xr_0).mp h
    omega
  refine va_newa hx hb (atype := .boolean) (hts _ harr) rfl hK hP hD hS hA (N' := N) (a0 := (N, .inl (fun j => xi (S q (j : Int))))) (fun cA => ?_) hn (by rw [xi_cl ⟨by omega, by omega⟩]; omega) (show N * _ ≤ _ from Nat.le_trans (Nat.mul_le_mul_right _ (Nat.le_of_lt hlt)) (by decide)) hroom.1 hroom.2 hd (fun a cA H1 hK1 hP1 hD1 hS1 => ?_)
  · simp only [vp_cell, hS0]
    rfl
  · have e1 : cA = k 1 := by
      have h1 := (hK1.2 4 (cA, .boolean) rfl).2
      have h2 := (hK.2 1 (k 1, .boolean) rfl).2
      exact Option.some.inj (h1.symm.trans h2)
    subst e1
    exact kk a ⟨⟨hx, hb, hml, hown, hts⟩, hK, hA, hr, hlk, rfl, hroom⟩ H1 locs ls hP1 hD1 hS1 hl
theorem xj_newJ {l : Launch} {D : va_G} {k : Nat → ClassId} {cs sl : Nat} {Q : State → Prop} {X : xX} {cc : ByteArray} {nL : Nat} {own : String} {Ts : List Cond} {ret : Option FieldType} {rm : Room} (C : xC D k (cs, sl, Q) X cc nL own Ts ret rm) {pc : Nat} {L : List (Nat × Value)} {st : List Value} {ws : va_W} {n : Int} {N : Nat} (S : Nat → Int → Int) (q : Nat) (hS0 : ∀ i, S q i = 0) (hN : n = (N : Int)) (hlt : N < 100000) (harr : Cond.arrayClass .long ∈ Ts) (hroom : cs + 1 ≤ rm.cells ∧ sl + N ≤ rm.slots) (hd : decode cc pc = .ok (.newarray .long, 2))
    (kk : ∀ a : Nat, xC D k (cs + 1, sl + N, Q) X cc nL own Ts ret rm → xJ l D k (cs + 1, sl + N, Q) X nL (pc + 2) L (.ref a :: st) (ws ++ [(a, .inl (k 2, N, .inr (.inl (fun j => Int64.ofInt (S q (j : Int))))))])) : xJ l D k (cs, sl, Q) X nL pc L (.int (xi n) :: st) ws := by
  obtain ⟨p, e, R, s, m, args, below, meth, c, A⟩ := X
  obtain ⟨⟨hx, hb, hml, hown, hts⟩, hK, hA, hr, hlk, hR, ho⟩ := C
  intro H locs ls hP hD hS hl
  subst hR
  subst hN
  have hn : ¬ xi (N : Int) < 0 := fun h => by
    have h2 := (xi_lt (x := (N : Int)) (y := 0) ⟨by omega, by omega⟩ xr_0).mp h
    omega
  refine va_newa hx hb (atype := .long) (hts _ harr) rfl hK hP hD hS hA (N' := N) (a0 := (N, .inr (.inl (fun j => Int64.ofInt (S q (j : Int)))))) (fun cA => ?_) hn (by rw [xi_cl ⟨by omega, by omega⟩]; omega) (show N * _ ≤ _ from Nat.le_trans (Nat.mul_le_mul_right _ (Nat.le_of_lt hlt)) (by decide)) hroom.1 hroom.2 hd (fun a cA H1 hK1 hP1 hD1 hS1 => ?_)
  · simp only [vp_cell, hS0]
    rfl
  · have e1 : cA = k 2 := by
      have h1 := (hK1.2 4 (cA, .long) rfl).2
      have h2 := (hK.2 2 (k 2, .long) rfl).2
      exact Option.some.inj (h1.symm.trans h2)
    subst e1
    exact kk a ⟨⟨hx, hb, hml, hown, hts⟩, hK, hA, hr, hlk, rfl, hroom⟩ H1 locs ls hP1 hD1 hS1 hl
theorem xj_newD {l : Launch} {D : va_G} {k : Nat → ClassId} {cs sl : Nat} {Q : State → Prop} {X : xX} {cc : ByteArray} {nL : Nat} {own : String} {Ts : List Cond} {ret : Option FieldType} {rm : Room} (C : xC D k (cs, sl, Q) X cc nL own Ts ret rm) {pc : Nat} {L : List (Nat × Value)} {st : List Value} {ws : va_W} {n : Int} {N : Nat} (S : Nat → Int → Int) (q : Nat) (hS0 : ∀ i, S q i = 0) (hN : n = (N : Int)) (hlt : N < 100000) (harr : Cond.arrayClass .double ∈ Ts) (hroom : cs + 1 ≤ rm.cells ∧ sl + N ≤ rm.slots) (hd : decode cc pc = .ok (.newarray .double, 2))
    (kk : ∀ a : Nat, xC D k (cs + 1, sl + N, Q) X cc nL own Ts ret rm → xJ l D k (cs + 1, sl + N, Q) X nL (pc + 2) L (.ref a :: st) (ws ++ [(a, .inl (k 3, N, .inr (.inr (.inr (.inl (fun j => UInt64.ofNat (S q (j : Int)).toNat))))))])) : xJ l D k (cs, sl, Q) X nL pc L (.int (xi n) :: st) ws := by
  obtain ⟨p, e, R, s, m, args, below, meth, c, A⟩ := X
  obtain ⟨⟨hx, hb, hml, hown, hts⟩, hK, hA, hr, hlk, hR, ho⟩ := C
  intro H locs ls hP hD hS hl
  subst hR
  subst hN
  have hn : ¬ xi (N : Int) < 0 := fun h => by
    have h2 := (xi_lt (x := (N : Int)) (y := 0) ⟨by omega, by omega⟩ xr_0).mp h
    omega
  refine va_newa hx hb (atype := .double) (hts _ harr) rfl hK hP hD hS hA (N' := N) (a0 := (N, .inr (.inr (.inr (.inl (fun j => UInt64.ofNat (S q (j : Int)).toNat)))))) (fun cA => ?_) hn (by rw [xi_cl ⟨by omega, by omega⟩]; omega) (show N * _ ≤ _ from Nat.le_trans (Nat.mul_le_mul_right _ (Nat.le_of_lt hlt)) (by decide)) hroom.1 hroom.2 hd (fun a cA H1 hK1 hP1 hD1 hS1 => ?_)
  · simp only [vp_cell, hS0]
    rfl
  · have e1 : cA = k 3 := by
      have h1 := (hK1.2 4 (cA, .double) rfl).2
      have h2 := (hK.2 3 (k 3, .double) rfl).2
      exact Option.some.inj (h1.symm.trans h2)
    subst e1
    exact kk a ⟨⟨hx, hb, hml, hown, hts⟩, hK, hA, hr, hlk, rfl, hroom⟩ H1 locs ls hP1 hD1 hS1 hl
theorem xj_new {l : Launch} {D : va_G} {k : Nat → ClassId} {cs sl : Nat} {Q : State → Prop} {X : xX} {cc : ByteArray} {nL : Nat} {own : String} {Ts : List Cond} {ret : Option FieldType} {rm : Room} (C : xC D k (cs, sl, Q) X cc nL own Ts ret rm) {pc : Nat} {L : List (Nat × Value)} {st : List Value} {ws : va_W} {Cn : String} {T : u_T} {N ci index : Nat} (hin : ∀ w ∈ u_ws Cn T N, w ∈ Ts) (ty : Nat → FieldType) (hty : ∀ k, k < N → parseFieldDescriptor (T k).2.2.1 = some (ty k)) (hcl : Cond.classLink own index Cn ∈ Ts) (hinst : Cond.instantiable Cn N ∈ Ts) (hini : Cond.initialized Cn ∈ Ts) (hc : vwCl[ci]? = some (Cn, T, N)) (fs : List Value) (hfs : ∀ j, j < N → defaultValue (ty j) = vp_V fs j) (hroom : cs + 1 ≤ rm.cells ∧ sl + N ≤ rm.slots) (hd : decode cc pc = .ok (.new index, 3))
    (kk : ∀ a : Nat, xC D k (cs + 1, sl + N, Q) X cc nL own Ts ret rm → xJ l D k (cs + 1, sl + N, Q) X nL (pc + 3) L (.ref a :: st) (ws ++ [(a, .inr (ci, fs))])) : xJ l D k (cs, sl, Q) X nL pc L st ws := by
  obtain ⟨p, e, R, s, m, args, below, meth, c, A⟩ := X
  obtain ⟨⟨hx, hb, hml, hown, hts⟩, hK, hA, hr, hlk, hR, ho⟩ := C
  intro H locs ls hP hD hS hl
  subst hR
  exact va_new hx hb hts hin ty hty hown (hts _ hcl) (hts _ hinst) (hts _ hini) hK hP hD hS hA hc hfs hroom.1 hroom.2 hd (fun a H1 hP1 hD1 hS1 => kk a ⟨⟨hx, hb, hml, hown, hts⟩, hK, hA, hr, hlk, rfl, hroom⟩ H1 locs ls hP1 hD1 hS1 hl)
theorem xj_putF {l : Launch} {D : va_G} {k : Nat → ClassId} {o : xO} {X : xX} {cc : ByteArray} {nL : Nat} {own : String} {Ts : List Cond} {ret : Option FieldType} {rm : Room} (C : xC D k o X cc nL own Ts ret rm) {pc : Nat} {L : List (Nat × Value)} {st : List Value} {ws : va_W} {Cn : String} {T : u_T} {N ci index a : Nat} {ws1 : va_W} (hI : xIn X) (hin : ∀ w ∈ u_ws Cn T N, w ∈ Ts) (ty0 : Nat → FieldType) (hty : ∀ k, k < N → parseFieldDescriptor (T k).2.2.1 = some (ty0 k)) (hnm : ∀ a, a < N → ∀ b, b < N → a ≠ b → (T a).2.1 ≠ (T b).2.1) (q0 : Nat) {fs : List Value} (he : ws[q0]? = some (a, .inr (ci, fs))) (hc : vwCl[ci]? = some (Cn, T, N)) (f : Nat) (hf : f < N) (hlink : (Cond.fieldLink own index Cn (T f).2.1 (T f).2.2.1) ∈ Ts) (hsm : ∀ s : State, ∀ x, s.fieldFound? (T f).1 (T f).2.1 (T f).2.2.1 = some x → s.fieldFound? Cn (T f).2.1 (T f).2.2.1 = some x) (hfin : (T f).2.2.2 = true) (hdecl : (T f).1 = own) {v : Value} (hn : narrow (ty0 f) v = v) (hfit : fits (ty0 f) v = true) (hl1 : f < fs.length) (hw : ws.set q0 (a, .inr (ci, fs.set f v)) = ws1) (hd : decode cc pc = .ok (.putfield index, 3)) (kk : xJ l D k o X nL (pc + 3) L st ws1) : xJ l D k o X nL pc L (v :: .ref a :: st) ws := by
  obtain ⟨p, e, R, s, m, args, below, meth, c, A⟩ := X
  obtain ⟨⟨hx, hb, hml, hown, hts⟩, hK, hA, hr, hlk, hR, ho⟩ := C
  intro H locs ls hP hD hS hl
  subst hw
  exact va_putF hx hb hts hin ty0 hty hnm hown hK hP hD hS q0 he hc f hf (hts _ hlink) (hsm s) hfin hI hdecl (hty f hf) hn hfit hl1 hd (fun H1 locs1 hP1 hD1 hS1 => kk H1 locs1 ls hP1 hD1 hS1 hl)
/-- a constructor's end: what W says of the cells behind it -/
def xQc (D : va_G) (k : Nat → ClassId) (A : Nat → Prop) (Wf : va_W → Prop) : Array Value → State → Outcome → State → Prop := fun _ st oc t => (oc = .returned none ∧ ∃ w1, Wf w1 ∧ va_P D vwCl w1 t.heap ∧ va_K D vwCl (xT k) t ∧ va_D A w1) ∧ va_F A st t
def xocQ (X : xX) (D : va_G) (k : Nat → ClassId) (Wf : va_W → Prop) (mc ms : Nat) : State → Prop := match X with
  | (_, _, _, s, _, args, below, _, _, A) => MQ below (xQc D k A Wf) args s mc ms A
abbrev xoc (X : xX) (D : va_G) (k : Nat → ClassId) (Wf : va_W → Prop) (mc ms cs sl : Nat) : xO := (cs, sl, xocQ X D k Wf mc ms)
theorem xj_perm {l : Launch} {D : va_G} {k : Nat → ClassId} {o : xO} {X : xX} {cc : ByteArray} {nL : Nat} {own : String} {Ts : List Cond} {ret : Option FieldType} {rm : Room} (C : xC D k o X cc nL own Ts ret rm) {pc : Nat} {L : List (Nat × Value)} {st : List Value} {ws : va_W} (is : List Nat) {ws1 : va_W} (hs : is.map (fun i => ws[i]?) = ws1.map some) (hn : va_nd is = true) (kk : xJ l D k o X nL pc L st ws1) : xJ l D k o X nL pc L st ws := by
  obtain ⟨p, e, R, s, m, args, below, meth, c, A⟩ := X
  obtain ⟨⟨hx, hb, hml, hown, hts⟩, hK, hA, hr, hlk, hR, ho⟩ := C
  intro H locs ls hP hD hS hl
  refine kk H locs ls (fun i q hq => ?_) (hD.sub is hn hs) hS hl
  have h1 : (is.map (fun i => ws[i]?))[i]? = some (some q) := by rw [hs, List.getElem?_map, hq]; rfl
  rw [List.getElem?_map] at h1
  cases hi : is[i]? with
  | none => rw [hi] at h1; cases h1
  | some j => rw [hi] at h1; exact hP j q (Option.some.inj h1)
/-- the two static rows of the class Fabric, which nobody writes -/
def xrs (j : Nat) : Int32 := xi (([-1, 0, 1, 0] : List Int).getD j 0)
def xcs (j : Nat) : Int32 := xi (([0, 1, 0, -1] : List Int).getD j 0)
def xz (sa sb : Nat) (A : Nat → Prop) (U : State) (H : Heap) : Prop := va_Z RX1 "ROW_STEP" "[I" (.ref sa) A U H ∧ va_Z RX1 "COLUMN_STEP" "[I" (.ref sb) A U H ∧ va_T .int sa 4 (fun j => .int (xrs j)) A U H ∧ va_T .int sb 4 (fun j => .int (xcs j)) A U H
def xZ (sa sb : Nat) (X : xX) : Prop := match X with
  | (_, _, _, s, _, _, _, _, _, A) => xz sa sb A s s.heap
theorem xz.to {sa sb : Nat} {A B : Nat → Prop} {s U : State} {H : Heap} {locs : List Loc} (h : xz sa sb A s s.heap) (hS : va_S A s.heap H locs) (hAB : ∀ q, B q → A q) (hU : U.heap = H) (hvm : s.vm.Alike U.vm) : xz sa sb B U U.heap := by
  obtain ⟨h1, h2, h3, h4⟩ := h
  rw [hU]
  exact ⟨((h1.kept (fun a ha hn => hS.2.1 a ha hn)).narrow hAB).moved hvm, ((h2.kept (fun a ha hn => hS.2.1 a ha hn)).narrow hAB).moved hvm, ((h3.kept (fun a ha hn => hS.2.1 a ha hn)).narrow hAB).moved hvm, ((h4.kept (fun a ha hn => hS.2.1 a ha hn)).narrow hAB).moved hvm⟩
theorem xz.calling {sa sb : Nat} {A : Nat → Prop} {U V : State} (h : xz sa sb A U U.heap) (hH : V.heap = U.heap) (hvm : U.vm.Alike V.vm) : xz sa sb A V V.heap := h.to va_S.rf (fun _ z => z) hH hvm
/-- a method's start: z: whether it reads the static rows -/
def xPc (z : Bool) (sa sb : Nat) (D : va_G) (k : Nat → ClassId) (av : List Value) (w : va_W) (sz : Nat) : Array Value → State → Prop := va_Pc av (fun U => U.heap.size = sz ∧ va_P D vwCl w U.heap ∧ va_K D vwCl (xT k) U ∧ va_D (fun _ => True) w ∧ (z = true → xz sa sb (va_A w sz) U U.heap))
theorem xPc_blind {z : Bool} {sa sb : Nat} {D : va_G} {k : Nat → ClassId} {av : List Value} {w : va_W} {sz : Nat} : FrameBlind (xPc z sa sb D k av w sz) := fun a U g mk q => by
  obtain ⟨q0, q1, qP, qK, qD, qz⟩ := q
  exact ⟨q0, q1, qP, va_K.moved (u := U) (U := U.calling g mk a) (Vm.Alike.refl U.vm) qK, qD, fun h => (qz h).calling (V := U.calling g mk a) rfl (Vm.Alike.refl U.vm)⟩
/-- contracts: xMZ a method that makes nothing; xN a constructor, which makes mc cells of ms slots -/
def xMZ (sa sb : Nat) (l : Launch) (y : MethodName) (ws : List Cond) (rm : Room) (D : va_G) (k : Nat → ClassId) (av : List Value) (w : va_W) (rv : Option Value) (w1 : va_W) : Prop :=
  ∀ sz : Nat, Met l y ws rm (xPc true sa sb D k av w sz) (xQ D k (va_A w sz) rv w1) 0 0 (va_A w sz)
def xN (z : Bool) (sa sb : Nat) (l : Launch) (y : MethodName) (ws : List Cond) (rm : Room) (D : va_G) (k : Nat → ClassId) (av : List Value) (w : va_W) (Wf : va_W → Prop) (mc ms : Nat) : Prop :=
  ∀ sz : Nat, Met l y ws rm (xPc z sa sb D k av w sz) (xQc D k (va_A w sz) Wf) mc ms (va_A w sz)
theorem xMZ_of {sa sb : Nat} {l : Launch} {y : MethodName} {ws ws1 : List Cond} {rm : Room} {D : va_G} {k : Nat → ClassId} {av : List Value} {w : va_W} {rv : Option Value} {w1 : va_W} {cc : ByteArray} {maxL : Nat} {ret : Option FieldType}
    (hy : plainName y.cls = true) (hw : ws = Cond.code y cc maxL ret :: ws1) (hlen : (lg_sl av).length ≤ maxL)
    (body : ∀ X : xX, xC D k (xo X D k rv w1) X cc maxL y.cls ws ret rm → xZ sa sb X → xJ l D k (xo X D k rv w1) X maxL 0 (lv_args 0 av) [] w) : xMZ sa sb l y ws rm D k av w rv w1 := by
  intro sz
  refine Met.ofW (cc := cc) (maxL := maxL) (ret := ret) hy hw ?_
  intro p e s m args below meth c s₁ B hml hv
  obtain ⟨rfl, hsz, hP, hK, hD0, hz⟩ := hv
  subst hsz
  have hown : s.vm.findClass y.cls = some m.cls := findClass_of_methodNamed B.named
  have hA : ∀ q : Nat, s.heap.size ≤ q → va_A w s.heap.size q := fun q h => Or.inr h
  rw [lg_entry_eq]
  exact body (p, e, (headSpec ws rm).room, s, m, av.toArray, below, meth, c, va_A w s.heap.size) ⟨⟨B.exec, B.bytes, hml, hown, atoms_spec (ws := ws) B.pre⟩, hK, hA, B.returns, B.notSynchronized, rfl, Nat.zero_le _, Nat.zero_le _⟩ (hz rfl) s.heap [] _ hP hD0.self va_S.rf (lv_entry av hlen)
theorem xN_of {z : Bool} {sa sb : Nat} {l : Launch} {y : MethodName} {ws ws1 : List Cond} {rm : Room} {D : va_G} {k : Nat → ClassId} {av : List Value} {w : va_W} {Wf : va_W → Prop} {mc ms : Nat} {cc : ByteArray} {maxL : Nat}
    (hy : plainName y.cls = true) (hyn : y.name = "<init>") (hw : ws = Cond.code y cc maxL none :: ws1) (hlen : (lg_sl av).length ≤ maxL)
    (body : ∀ X : xX, xC D k (xoc X D k Wf mc ms 0 0) X cc maxL y.cls ws none rm → xIn X → (z = true → xZ sa sb X) → xJ l D k (xoc X D k Wf mc ms 0 0) X maxL 0 (lv_args 0 av) [] w) : xN z sa sb l y ws rm D k av w Wf mc ms := by
  intro sz
  refine Met.ofW (cc := cc) (maxL := maxL) (ret := none) hy hw ?_
  intro p e s m args below meth c s₁ B hml hv
  obtain ⟨rfl, hsz, hP, hK, hD0, hz⟩ := hv
  subst hsz
  have hown : s.vm.findClass y.cls = some m.cls := findClass_of_methodNamed B.named
  have hA : ∀ q : Nat, s.heap.size ≤ q → va_A w s.heap.size q := fun q h => Or.inr h
  have hin : meth.name = y.name := (name_of_methodNamed B.named B.method).1
  rw [lg_entry_eq]
  exact body (p, e, (headSpec ws rm).room, s, m, av.toArray, below, meth, c, va_A w s.heap.size) ⟨⟨B.exec, B.bytes, hml, hown, atoms_spec (ws := ws) B.pre⟩, hK, hA, B.returns, B.notSynchronized, rfl, Nat.zero_le _, Nat.zero_le _⟩ (hin.trans hyn) hz s.heap [] _ hP hD0.self va_S.rf (lv_entry av hlen)
theorem xj_cret {l : Launch} {D : va_G} {k : Nat → ClassId} {Wf : va_W → Prop} {mc ms : Nat} {X : xX} {cc : ByteArray} {nL : Nat} {own : String} {Ts : List Cond} {ret : Option FieldType} {rm : Room} (C : xC D k (xoc X D k Wf mc ms mc ms) X cc nL own Ts ret rm) {pc : Nat} {L : List (Nat × Value)} {ws : va_W} (hrt : ret = none) (hW : Wf ws) (hd : decode cc pc = .ok (.return_, 1)) : xJ l D k (xoc X D k Wf mc ms mc ms) X nL pc L [] ws := by
  subst hrt
  obtain ⟨p, e, R, s, m, args, below, meth, c, A⟩ := X
  obtain ⟨⟨hx, hb, hml, hown, hts⟩, hK, hA, hr, hlk, hR, ho⟩ := C
  intro H locs ls hP hD hS hl
  exact W.vret hx hb hr (fun t ht hW1 => ⟨⟨rfl, ws, hW, by rw [ht]; exact hP, va_K.moved hW1.alike hK, hD⟩, hS.F ht⟩) hS.2.2 hd hlk
section XCALLN
variable {p : Program} {l : Launch} {e : Env} {R : Room} {s : State} {m : MethodId} {args : Array Value} {below : List Frame} {meth : Method} {c : Code} {H : Heap} {locs : List Loc} {cells slots : Nat} {Q : State → Prop}
variable {pc : Nat} {ls : Array Slot} {rest st0 : List Value} {a : Array Value} {A0 A1 : Nat → Prop} {H0 : Heap} {mc ms : Nat} {free : Addr → Prop}
theorem va_callN {D : va_G} {k : Nat → ClassId} {Wf : va_W → Prop} (hr : va_Run p l e R s m args below meth c H locs cells slots mc ms (F0 m pc ls st0) rest (xQc D k A1 Wf a) free) (hS : va_S A0 H0 H locs) (hA : ∀ q, q < H.size → A1 q → A0 q) (hf : ∀ q, free q → A0 q)
    (kk : ∀ (t : State) (H1 : Heap) (locs1 : List Loc) (w2 : va_W), Wf w2 → t.heap = H1 → s.vm.Alike t.vm → va_P D vwCl w2 H1 → va_D A1 w2 → H.size ≤ H1.size → (∀ q : Nat, q < H.size → ¬ A1 q → H1[q]? = H[q]?) → va_S A0 H0 H1 locs1 → W p l e R s m args below meth c H1 locs1 (cells + mc) (slots + ms) Q (F0 m (pc + 3) ls rest)) : W p l e R s m args below meth c H locs cells slots Q (F0 m pc ls st0) := by
  intro T hT X
  obtain ⟨v, st₀, t, T', L, h0, X', hL, e1, e2, ⟨⟨hv, w2, hw2, hp, _, hd⟩, hz, hk⟩, st⟩ := hr T hT X
  cases hv
  rw [h0] at hz hk
  obtain ⟨t2, a1, b1⟩ := kk t T'.heap (locs ++ L) w2 hw2 e1.symm (by rw [← e2]; exact X'.warmed.alike) (by rw [e1]; exact hp) hd (by rw [e1]; exact hz) (fun q h1 h2 => by rw [e1]; exact hk q h1 h2)
    ⟨Nat.le_trans hS.1 (by rw [e1]; exact hz), fun q h1 h2 => by rw [e1, hk q (Nat.lt_of_lt_of_le h1 hS.1) (fun z => h2 (hA q (Nat.lt_of_lt_of_le h1 hS.1) z))]; exact hS.2.1 q h1 h2, fun q hq => by
      rcases List.mem_append.mp hq with h | h
      · exact hS.2.2 q h
      · exact hf _ (hL q h)⟩ T' rfl X'
  exact ⟨t2, st t2 a1, b1⟩
end XCALLN
theorem xj_callN {l : Launch} {D : va_G} {k : Nat → ClassId} {cs sl : Nat} {Q : State → Prop} {X : xX} {cc : ByteArray} {nL : Nat} {own : String} {Ts : List Cond} {ret : Option FieldType} {rm : Room} (C : xC D k (cs, sl, Q) X cc nL own Ts ret rm) {pc : Nat} {L : List (Nat × Value)} {ws : va_W}
    {z : Bool} {sa sb : Nat} {y : MethodName} {bytes : ByteArray} {maxL b index mc ms : Nat} {wsc ws1 : List Cond} {rmc : Room} {Wf : va_W → Prop} (As rest : List Value) (n : Nat) (isC isR : List Nat) {wc wr : va_W} (hC : isC.map (fun i => ws[i]?) = wc.map some) (hRs : isR.map (fun i => ws[i]?) = wr.map some) (hndC : va_nd isC = true) (hndR : va_nd isR = true) (hdis : ∀ i ∈ isR, i ∉ isC)
    (hZ : z = true → xZ sa sb X) (hM : xN z sa sb l y wsc rmc D k (.ref b :: As) wc Wf mc ms) (hG : GoodIn Ts wsc) (hw : wsc = .code y bytes maxL none :: ws1) (hz : rmc.cells = mc ∧ rmc.slots = ms)
    (hini : Cond.initialized y.cls ∈ Ts) (hlink : Cond.methodLink own index y ∈ Ts) (hinst : Cond.instanceMethod y ∈ Ts) (hy1 : y.name = "<init>")
    (hd0 : y.cls ≠ "java/lang/invoke/MethodHandle" ∧ y.cls ≠ "java/lang/invoke/VarHandle" ∧ (parseMethodDescriptor y.desc).map (fun d => d.parameters.length) = some n) (hR0 : rmc.frames + 1 ≤ rm.frames ∧ 8 + (maxL + 11) + rmc.locals ≤ rm.locals)
    (hn : As.length = n) (hcat : (rest.map fun v => v.category).sum ≤ 8) (hroom : cs + mc ≤ rm.cells ∧ sl + ms ≤ rm.slots) (hdg : decode cc pc = .ok (.invokespecial index, 3))
    (kk : ∀ w2, Wf w2 → xC D k (cs + mc, sl + ms, Q) X cc nL own Ts ret rm → xJ l D k (cs + mc, sl + ms, Q) X nL (pc + 3) L rest (wr ++ w2)) : xJ l D k (cs, sl, Q) X nL pc L (As.reverse ++ .ref b :: rest) ws := by
  obtain ⟨p, e, R, s, m, args, below, meth, c, A⟩ := X
  obtain ⟨⟨hx, hb, hml, hown, hts⟩, hK, hA, hr, hlk, hR, ho⟩ := C
  intro H locs ls hP hD hS hl
  subst hR
  have hF : ∀ q, va_A wc H.size q → A q := va_free hD hS hA isC hC
  have hPc : va_P D vwCl wc H := fun i q hq => by
    have h1 : (isC.map (fun i => ws[i]?))[i]? = some (some q) := by rw [hC, List.getElem?_map, hq]; rfl
    rw [List.getElem?_map] at h1
    cases hi : isC[i]? with
    | none => rw [hi] at h1; cases h1
    | some j => rw [hi] at h1; exact hP j q (Option.some.inj h1)
  have hDc : va_D A wc := hD.sub isC hndC hC
  refine va_callN (va_runI (As := As) (rest := rest) ⟨hx, hb, hml, hown, hts⟩ (hM H.size) (cwI n hts hG hw hz.1 hz.2 (hts _ hini) (hts _ hlink) (hts _ hinst) hy1 hd0 hR0) ⟨xPc_blind, fun U hU hW => ⟨rfl, by rw [hU], by rw [hU]; exact hPc, va_K.moved hW.alike hK, hDc.weaken (fun _ _ _ _ => trivial), fun h => (hZ h).to hS hF hU hW.alike⟩⟩ rfl hn hl.1 rfl (lv_room hcat) hdg hroom) hS (fun q _ h => hF q h) hF (fun t H1 locs1 w2 hw2 ht hvm hP1 hD1 hz1 hk1 hS1 => ?_)
  obtain ⟨hP2, hD2⟩ := va_join hP hD isC isR hC hRs hndR hdis hk1 hF hP1 hD1
  exact kk w2 hw2 ⟨⟨hx, hb, hml, hown, hts⟩, hK, hA, hr, hlk, rfl, hroom⟩ H1 locs1 ls hP2 hD2 hS1 hl
theorem xj_callVs {l : Launch} {D : va_G} {k : Nat → ClassId} {o : xO} {X : xX} {cc : ByteArray} {nL : Nat} {own : String} {Ts : List Cond} {ret : Option FieldType} {rm : Room} (C : xC D k o X cc nL own Ts ret rm) {pc : Nat} {L : List (Nat × Value)} {ws : va_W}
    {y : MethodName} {bytes : ByteArray} {maxL b index ci N : Nat} {T : u_T} {retc : Option FieldType} {wsc ws1 : List Cond} {rmc : Room} {ws2 : va_W} {rvc : Option Value} {Cn : String} {fs : List Value} (As rest : List Value) (n : Nat) (isC isR : List Nat) {wc wr : va_W} (hC : isC.map (fun i => ws[i]?) = wc.map some) (hRs : isR.map (fun i => ws[i]?) = wr.map some) (hndC : va_nd isC = true) (hndR : va_nd isR = true) (hdis : ∀ i ∈ isR, i ∉ isC)
    (hM : xM l y wsc rmc D k (.ref b :: As) wc rvc ws2) (hG : GoodIn Ts (wsV own index Cn y wsc)) (hw : wsc = .code y bytes maxL retc :: ws1) (hz : rmc.cells = 0 ∧ rmc.slots = 0)
    (hd0 : y.cls = Cn ∧ y.cls ≠ "java/lang/invoke/MethodHandle" ∧ y.cls ≠ "java/lang/invoke/VarHandle" ∧ (parseMethodDescriptor y.desc).map (fun d => d.parameters.length) = some n) (hR0 : rmc.frames + 1 ≤ rm.frames ∧ 8 + (maxL + 11) + rmc.locals ≤ rm.locals)
    (q0 : Nat) (he : wc[q0]? = some (b, .inr (ci, fs))) (hc : vwCl[ci]? = some (Cn, T, N)) (hn : As.length = n) (hcat : (rest.map fun v => v.category).sum ≤ 8) (hdg : decode cc pc = .ok (.invokevirtual index, 3))
    (kk : xJ l D k o X nL (pc + 3) L (rvc.toList ++ rest) (wr ++ ws2)) : xJ l D k o X nL pc L (As.reverse ++ .ref b :: rest) ws := by
  obtain ⟨p, e, R, s, m, args, below, meth, c, A⟩ := X
  obtain ⟨⟨hx, hb, hml, hown, hts⟩, hK, hA, hr, hlk, hR, ho⟩ := C
  intro H locs ls hP hD hS hl
  subst hR
  have hF : ∀ q, va_A wc H.size q → A q := va_free hD hS hA isC hC
  have hPc : va_P D vwCl wc H := fun i q hq => by
    have h1 : (isC.map (fun i => ws[i]?))[i]? = some (some q) := by rw [hC, List.getElem?_map, hq]; rfl
    rw [List.getElem?_map] at h1
    cases hi : isC[i]? with
    | none => rw [hi] at h1; cases h1
    | some j => rw [hi] at h1; exact hP j q (Option.some.inj h1)
  have hDc : va_D A wc := hD.sub isC hndC hC
  refine va_callX (va_runV (As := As) (rest := rest) ⟨hx, hb, hml, hown, hts⟩ (hM H.size) (cwV n hts hG hw hz.1 hz.2 hd0 hR0) ⟨xM_blind, va_recv hK hPc hc he, fun U hU hW => ⟨rfl, by rw [hU], by rw [hU]; exact hPc, va_K.moved hW.alike hK, hDc.weaken (fun _ _ _ _ => trivial)⟩⟩ rfl hn hl.1 rfl (lv_room hcat) hdg ho) hS (fun q _ h => hF q h) hF (fun t H1 locs1 ht hvm hP1 hD1 hz1 hk1 hS1 => ?_)
  obtain ⟨hP2, hD2⟩ := va_join hP hD isC isR hC hRs hndR hdis hk1 hF hP1 hD1
  exact kk H1 locs1 ls hP2 hD2 hS1 hl
theorem xj_callVZ {l : Launch} {D : va_G} {k : Nat → ClassId} {o : xO} {X : xX} {cc : ByteArray} {nL : Nat} {own : String} {Ts : List Cond} {ret : Option FieldType} {rm : Room} (C : xC D k o X cc nL own Ts ret rm) {pc : Nat} {L : List (Nat × Value)} {ws : va_W}
    {sa sb : Nat} {y : MethodName} {bytes : ByteArray} {maxL b index ci N : Nat} {T : u_T} {retc : Option FieldType} {wsc ws1 : List Cond} {rmc : Room} {ws2 : va_W} {rvc : Option Value} {Cn : String} {fs : List Value} (As rest : List Value) (n : Nat)
    (hZ : xZ sa sb X) (hM : xMZ sa sb l y wsc rmc D k (.ref b :: As) ws rvc ws2) (hG : GoodIn Ts (wsV own index Cn y wsc)) (hw : wsc = .code y bytes maxL retc :: ws1) (hz : rmc.cells = 0 ∧ rmc.slots = 0)
    (hd0 : y.cls = Cn ∧ y.cls ≠ "java/lang/invoke/MethodHandle" ∧ y.cls ≠ "java/lang/invoke/VarHandle" ∧ (parseMethodDescriptor y.desc).map (fun d => d.parameters.length) = some n) (hR0 : rmc.frames + 1 ≤ rm.frames ∧ 8 + (maxL + 11) + rmc.locals ≤ rm.locals)
    (q0 : Nat) (he : ws[q0]? = some (b, .inr (ci, fs))) (hc : vwCl[ci]? = some (Cn, T, N)) (hn : As.length = n) (hcat : (rest.map fun v => v.category).sum ≤ 8) (hdg : decode cc pc = .ok (.invokevirtual index, 3))
    (kk : xJ l D k o X nL (pc + 3) L (rvc.toList ++ rest) ws2) : xJ l D k o X nL pc L (As.reverse ++ .ref b :: rest) ws := by
  obtain ⟨p, e, R, s, m, args, below, meth, c, A⟩ := X
  obtain ⟨⟨hx, hb, hml, hown, hts⟩, hK, hA, hr, hlk, hR, ho⟩ := C
  intro H locs ls hP hD hS hl
  subst hR
  have hF : ∀ q, va_A ws H.size q → A q := by
    rintro q (⟨k2, e2, h⟩ | h)
    · exact hD.2 k2 (q, e2) h
    · exact hA q (Nat.le_trans hS.1 h)
  refine va_callX (va_runV (As := As) (rest := rest) ⟨hx, hb, hml, hown, hts⟩ (hM H.size) (cwV n hts hG hw hz.1 hz.2 hd0 hR0) ⟨xPc_blind, va_recv hK hP hc he, fun U hU hW => ⟨rfl, by rw [hU], by rw [hU]; exact hP, va_K.moved hW.alike hK, hD.weaken (fun _ _ _ _ => trivial), fun _ => hZ.to hS hF hU hW.alike⟩⟩ rfl hn hl.1 rfl (lv_room hcat) hdg ho) hS (fun q _ h => hF q h) hF (fun t H1 locs1 ht hvm hP1 hD1 hz1 hk1 hS1 => ?_)
  exact kk H1 locs1 ls hP1 (hD1.weaken (fun k q _ h => hF q.1 h)) hS1 hl
theorem xj_callSZ {l : Launch} {D : va_G} {k : Nat → ClassId} {o : xO} {X : xX} {cc : ByteArray} {nL : Nat} {own : String} {Ts : List Cond} {ret : Option FieldType} {rm : Room} (C : xC D k o X cc nL own Ts ret rm) {pc : Nat} {L : List (Nat × Value)} {ws : va_W}
    {sa sb : Nat} {y : MethodName} {bytes : ByteArray} {maxL index : Nat} {retc : Option FieldType} {wsc ws1 : List Cond} {rmc : Room} {ws2 : va_W} {rvc : Option Value} (As rest : List Value) (n : Nat)
    (hZ : xZ sa sb X) (hM : xMZ sa sb l y wsc rmc D k As ws rvc ws2) (hG : GoodIn Ts (va_wsS own index y wsc)) (hw : wsc = .code y bytes maxL retc :: ws1) (hz : rmc.cells = 0 ∧ rmc.slots = 0)
    (hd0 : y.cls ≠ "java/lang/invoke/MethodHandle" ∧ y.cls ≠ "java/lang/invoke/VarHandle" ∧ (parseMethodDescriptor y.desc).map (fun d => d.parameters.length) = some n) (hR0 : rmc.frames + 1 ≤ rm.frames ∧ 8 + (maxL + 11) + rmc.locals ≤ rm.locals)
    (hn : As.length = n) (hcat : (rest.map fun v => v.category).sum ≤ 8) (hdg : decode cc pc = .ok (.invokestatic index, 3))
    (kk : xJ l D k o X nL (pc + 3) L (rvc.toList ++ rest) ws2) : xJ l D k o X nL pc L (As.reverse ++ rest) ws := by
  obtain ⟨p, e, R, s, m, args, below, meth, c, A⟩ := X
  obtain ⟨⟨hx, hb, hml, hown, hts⟩, hK, hA, hr, hlk, hR, ho⟩ := C
  intro H locs ls hP hD hS hl
  subst hR
  have hF : ∀ q, va_A ws H.size q → A q := by
    rintro q (⟨k2, e2, h⟩ | h)
    · exact hD.2 k2 (q, e2) h
    · exact hA q (Nat.le_trans hS.1 h)
  refine va_callX (va_runS (As := As) (rest := rest) ⟨hx, hb, hml, hown, hts⟩ (hM H.size) (va_cwS n hts hG hw hz.1 hz.2 hd0 hR0) ⟨xPc_blind, fun U hU hW => ⟨rfl, by rw [hU], by rw [hU]; exact hP, va_K.moved hW.alike hK, hD.weaken (fun _ _ _ _ => trivial), fun _ => hZ.to hS hF hU hW.alike⟩⟩ rfl hn hl.1 rfl (lv_room hcat) hdg ho) hS (fun q _ h => hF q h) hF (fun t H1 locs1 ht hvm hP1 hD1 hz1 hk1 hS1 => ?_)
  exact kk H1 locs1 ls hP1 (hD1.weaken (fun k q _ h => hF q.1 h)) hS1 hl
theorem xj_gets_row {l : Launch} {D : va_G} {k : Nat → ClassId} {o : xO} {X : xX} {cc : ByteArray} {nL : Nat} {own : String} {Ts : List Cond} {ret : Option FieldType} {rm : Room} (C : xC D k o X cc nL own Ts ret rm) {pc : Nat} {L : List (Nat × Value)} {st : List Value} {ws : va_W} {sa sb index : Nat} (hZ : xZ sa sb X) (hlink : Cond.fieldLink own index RX1 "ROW_STEP" "[I" ∈ Ts) (hd : decode cc pc = .ok (.getstatic index, 3)) (kk : xJ l D k o X nL (pc + 3) L (.ref sa :: st) ws) : xJ l D k o X nL pc L st ws := by
  obtain ⟨p, e, R, s, m, args, below, meth, c, A⟩ := X
  obtain ⟨⟨hx, hb, hml, hown, hts⟩, hK, hA, hr, hlk, hR, ho⟩ := C
  intro H locs ls hP hD hS hl
  exact va_gets hx hb hZ.1 hS hown (hts _ hlink) (fun _ h => h) hd (kk H locs ls hP hD hS hl)
theorem xj_sld_row {l : Launch} {D : va_G} {k : Nat → ClassId} {o : xO} {X : xX} {cc : ByteArray} {nL : Nat} {own : String} {Ts : List Cond} {ret : Option FieldType} {rm : Room} (C : xC D k o X cc nL own Ts ret rm) {pc : Nat} {L : List (Nat × Value)} {st : List Value} {ws : va_W} {sa sb : Nat} {i : Int} (hZ : xZ sa sb X) (hg : 0 ≤ i ∧ i < 4) (hd : decode cc pc = .ok (.iaload, 1)) (kk : xJ l D k o X nL (pc + 1) L (.int (xi (([-1, 0, 1, 0] : List Int).getD i.toNat 0)) :: st) ws) : xJ l D k o X nL pc L (.int (xi i) :: .ref sa :: st) ws := by
  obtain ⟨p, e, R, s, m, args, below, meth, c, A⟩ := X
  obtain ⟨⟨hx, hb, hml, hown, hts⟩, hK, hA, hr, hlk, hR, ho⟩ := C
  intro H locs ls hP hD hS hl
  exact va_ti hx hb hZ.2.2.1 hS (xi_in ⟨hg.1, by omega⟩ (by decide)) (by rw [xi_cl ⟨hg.1, by omega⟩]; rfl) hd (kk H locs ls hP hD hS hl)
theorem xj_gets_col {l : Launch} {D : va_G} {k : Nat → ClassId} {o : xO} {X : xX} {cc : ByteArray} {nL : Nat} {own : String} {Ts : List Cond} {ret : Option FieldType} {rm : Room} (C : xC D k o X cc nL own Ts ret rm) {pc : Nat} {L : List (Nat × Value)} {st : List Value} {ws : va_W} {sa sb index : Nat} (hZ : xZ sa sb X) (hlink : Cond.fieldLink own index RX1 "COLUMN_STEP" "[I" ∈ Ts) (hd : decode cc pc = .ok (.getstatic index, 3)) (kk : xJ l D k o X nL (pc + 3) L (.ref sb :: st) ws) : xJ l D k o X nL pc L st ws := by
  obtain ⟨p, e, R, s, m, args, below, meth, c, A⟩ := X
  obtain ⟨⟨hx, hb, hml, hown, hts⟩, hK, hA, hr, hlk, hR, ho⟩ := C
  intro H locs ls hP hD hS hl
  exact va_gets hx hb hZ.2.1 hS hown (hts _ hlink) (fun _ h => h) hd (kk H locs ls hP hD hS hl)
theorem xj_sld_col {l : Launch} {D : va_G} {k : Nat → ClassId} {o : xO} {X : xX} {cc : ByteArray} {nL : Nat} {own : String} {Ts : List Cond} {ret : Option FieldType} {rm : Room} (C : xC D k o X cc nL own Ts ret rm) {pc : Nat} {L : List (Nat × Value)} {st : List Value} {ws : va_W} {sa sb : Nat} {i : Int} (hZ : xZ sa sb X) (hg : 0 ≤ i ∧ i < 4) (hd : decode cc pc = .ok (.iaload, 1)) (kk : xJ l D k o X nL (pc + 1) L (.int (xi (([0, 1, 0, -1] : List Int).getD i.toNat 0)) :: st) ws) : xJ l D k o X nL pc L (.int (xi i) :: .ref sb :: st) ws := by
  obtain ⟨p, e, R, s, m, args, below, meth, c, A⟩ := X
  obtain ⟨⟨hx, hb, hml, hown, hts⟩, hK, hA, hr, hlk, hR, ho⟩ := C
  intro H locs ls hP hD hS hl
  exact va_ti hx hb hZ.2.2.2 hS (xi_in ⟨hg.1, by omega⟩ (by decide)) (by rw [xi_cl ⟨hg.1, by omega⟩]; rfl) hd (kk H locs ls hP hD hS hl)
