abbrev vwCl : List vw_C := [(RX0, TX0, 11), (RX1, TX1, 4), (RX2, TX2, 2), (RX3, TX3, 4), (RX4, TX4, 11), (RX5, TX5, 6), (RX6, TX6, 3), (RX7, TX7, 4), (RX8, TX8, 8), (RX9, TX9, 28)]
/-! ints as mathematical integers; worlds, contexts, the judgement xJ: from a place with locals L, stack st, world ws the method ends with rv and the world wf -/
def xi (x : Int) : Int32 := Int32.ofInt x
abbrev xr (x : Int) : Prop := -2147483648 ≤ x ∧ x ≤ 2147483647
theorem xi_toInt {x : Int} (h : xr x) : (xi x).toInt = x := Int32.toInt_ofInt_of_le (by have := h.1; omega) (by have := h.2; omega)
theorem xi_of (x : Int32) : xi x.toInt = x := Int32.ofInt_toInt x
theorem xi_add (x y : Int) : xi x + xi y = xi (x + y) := (Int32.ofInt_add x y).symm
theorem xi_sub (x y : Int) : xi x - xi y = xi (x - y) := (Int32.ofInt_sub x y).symm
theorem xi_mul (x y : Int) : xi x * xi y = xi (x * y) := (Int32.ofInt_mul x y).symm
theorem xi_lt {x y : Int} (hx : xr x) (hy : xr y) : xi x < xi y ↔ x < y := by rw [Int32.lt_iff_toInt_lt, xi_toInt hx, xi_toInt hy]
theorem xi_le {x y : Int} (hx : xr x) (hy : xr y) : xi x ≤ xi y ↔ x ≤ y := by rw [Int32.le_iff_toInt_le, xi_toInt hx, xi_toInt hy]
theorem xi_eq {x y : Int} (hx : xr x) (hy : xr y) : xi x = xi y ↔ x = y := by rw [← Int32.toInt_inj, xi_toInt hx, xi_toInt hy]
theorem xi_nat (n : Nat) : xi (n : Int) = nI n := by
  unfold xi nI
  apply Int32.toBitVec_inj.mp
  simp
theorem xi_pos {x : Int} (h : 0 ≤ x) : xi x = nI x.toNat := by
  have e : x = ((x.toNat : Nat) : Int) := by omega
  calc xi x = xi ((x.toNat : Nat) : Int) := by rw [← e]
    _ = nI x.toNat := xi_nat _
theorem xi_div {x y : Int} (h : 0 ≤ x ∧ x ≤ 2147483647 ∧ 0 < y ∧ y ≤ 2147483647) : xi x / xi y = xi (x / y) := by
  obtain ⟨h1, h2, h3, h4⟩ := h
  have e : x / y = ((x.toNat / y.toNat : Nat) : Int) := by
    rw [Int.natCast_ediv, Int.toNat_of_nonneg h1, Int.toNat_of_nonneg (by omega)]
  rw [e, xi_nat, xi_pos h1, xi_pos (by omega), pk_div (by omega) (by omega) (by omega)]
theorem xi_rem {x y : Int} (h : 0 ≤ x ∧ x ≤ 2147483647 ∧ 0 < y ∧ y ≤ 2147483647) : xi x - xi x / xi y * xi y = xi (x % y) := by
  obtain ⟨h1, h2, h3, h4⟩ := h
  have e : x % y = ((x.toNat % y.toNat : Nat) : Int) := by
    rw [Int.natCast_emod, Int.toNat_of_nonneg h1, Int.toNat_of_nonneg (by omega)]
  rw [e, xi_nat, xi_pos h1, xi_pos (by omega), pk_rem (by omega) (by omega) (by omega)]
theorem xi_nz {y : Int} (h : 0 < y ∧ y ≤ 2147483647) : ¬ xi y = 0 := by
  intro h2
  have h3 : xi y = xi 0 := h2
  have := (xi_eq ⟨by omega, by omega⟩ ⟨by omega, by omega⟩).mp h3
  omega
theorem xi_cl {x : Int} (h : 0 ≤ x ∧ x < 2147483648) : (xi x).toNatClampNeg = x.toNat := by
  rw [xi_pos h.1, nI_clamp (by omega)]
theorem xi_in {x : Int} {n : Nat} (h : 0 ≤ x ∧ x < n) (hn : n < 2147483648) : vp_in (xi x) n := by
  rw [xi_pos h.1]
  exact vp_in_nI (by omega) (by omega)
def xck {α : Type} (P : Prop) [Decidable P] (t : Option α) : Option α := if P then t else none
theorem xck_some {α : Type} {P : Prop} [Decidable P] {t : Option α} {v : α} (h : xck P t = some v) : P ∧ t = some v := by
  unfold xck at h
  split at h
  · exact ⟨by assumption, h⟩
  · cases h
theorem xck_t {α : Type} {P : Prop} [Decidable P] {t : Option α} (h : P) : xck P t = t := if_pos h
theorem xit {α : Type} {P : Prop} [Decidable P] {a b o : Option α} (h : (if P then a else b) = o) (c : P) : a = o := by rw [if_pos c] at h; exact h
theorem xif {α : Type} {P : Prop} [Decidable P] {a b o : Option α} (h : (if P then a else b) = o) (c : ¬ P) : b = o := by rw [if_neg c] at h; exact h
theorem xbd {α β : Type} {t : Option α} {f : α → Option β} {v : β} (h : t.bind f = some v) : ∃ u, t = some u ∧ f u = some v := Option.bind_eq_some_iff.mp h
def xup (S : Nat → Int → Int) (q : Nat) (i v : Int) : Nat → Int → Int := fun q1 i1 => if q1 = q ∧ i1 = i then v else S q1 i1
theorem xup_s (S : Nat → Int → Int) (q : Nat) (i v : Int) : xup S q i v q i = v := if_pos ⟨rfl, rfl⟩
theorem xup_q (S : Nat → Int → Int) {q q1 : Nat} (i v : Int) (h : q1 ≠ q) : xup S q i v q1 = S q1 := by
  funext i1
  exact if_neg (fun h1 => h h1.1)
theorem xup_i (S : Nat → Int → Int) (q : Nat) {i i1 : Int} (v : Int) (h : i1 ≠ i) : xup S q i v q i1 = S q i1 := if_neg (fun h1 => h h1.2)
abbrev xT (k : Nat → ClassId) : List (ClassId × FieldType) := [(k 0, .int), (k 1, .boolean), (k 2, .long), (k 3, .double)]
abbrev xX : Type := Program × Env × Room × State × MethodId × Array Value × List Frame × Method × Code × (Nat → Prop)
abbrev xO : Type := Nat × Nat × (State → Prop)
def xQ (D : va_G) (k : Nat → ClassId) (A : Nat → Prop) (rv : Option Value) (wf : va_W) : Array Value → State → Outcome → State → Prop := fun _ st oc t => (oc = .returned rv ∧ va_P D vwCl wf t.heap ∧ va_K D vwCl (xT k) t ∧ va_D A wf) ∧ va_F A st t
def xJ (l : Launch) (D : va_G) (k : Nat → ClassId) (o : xO) (X : xX) (nL pc : Nat) (L : List (Nat × Value)) (st : List Value) (ws : va_W) : Prop := match X with
  | (p, e, R, s, m, args, below, meth, c, A) => ∀ (H : Heap) (locs : List Loc) (ls : Array Slot), va_P D vwCl ws H → va_D A ws → va_S A s.heap H locs → lv_has ls nL L → W p l e R s m args below meth c H locs o.1 o.2.1 o.2.2 (F0 m pc ls st)
/-- the end of a method that makes nothing -/
def xo (X : xX) (D : va_G) (k : Nat → ClassId) (rv : Option Value) (wf : va_W) : xO := match X with
  | (_, _, _, s, _, args, below, _, _, A) => (0, 0, MQ below (xQ D k A rv wf) args s 0 0 A)
def xC (D : va_G) (k : Nat → ClassId) (o : xO) (X : xX) (cc : ByteArray) (nL : Nat) (own : String) (Ts : List Cond) (ret : Option FieldType) (rm : Room) : Prop := match X with
  | (p, _, R, s, m, args, _, meth, c, A) => CallFix p m c cc nL s args Ts own ∧ va_K D vwCl (xT k) s ∧ (∀ q : Nat, s.heap.size ≤ q → A q) ∧ meth.sig.returnType = ret ∧ meth.locks = false ∧ R = rm ∧ o.1 ≤ R.cells ∧ o.2.1 ≤ R.slots
/-- a method's contract: from the world w it answers rv and leaves the world w', nothing made -/
def xM (l : Launch) (y : MethodName) (ws : List Cond) (rm : Room) (D : va_G) (k : Nat → ClassId) (av : List Value) (w : va_W) (rv : Option Value) (w' : va_W) : Prop :=
  ∀ sz : Nat, Met l y ws rm (va_Pc av (fun U => U.heap.size = sz ∧ va_P D vwCl w U.heap ∧ va_K D vwCl (xT k) U ∧ va_D (fun _ => True) w)) (xQ D k (va_A w sz) rv w') 0 0 (va_A w sz)
theorem xM_of {l : Launch} {y : MethodName} {ws ws' : List Cond} {rm : Room} {D : va_G} {k : Nat → ClassId} {av : List Value} {w : va_W} {rv : Option Value} {w' : va_W} {cc : ByteArray} {maxL : Nat} {ret : Option FieldType}
    (hy : plainName y.cls = true) (hw : ws = Cond.code y cc maxL ret :: ws') (hlen : (lg_sl av).length ≤ maxL)
    (body : ∀ X : xX, xC D k (xo X D k rv w') X cc maxL y.cls ws ret rm → xJ l D k (xo X D k rv w') X maxL 0 (lv_args 0 av) [] w) : xM l y ws rm D k av w rv w' := by
  intro sz
  refine Met.ofW (cc := cc) (maxL := maxL) (ret := ret) hy hw ?_
  intro p e s m args below meth c s₁ B hml hv
  obtain ⟨rfl, hsz, hP, hK, hD0⟩ := hv
  subst hsz
  have hown : s.vm.findClass y.cls = some m.cls := findClass_of_methodNamed B.named
  have hA : ∀ q : Nat, s.heap.size ≤ q → va_A w s.heap.size q := fun q h => Or.inr h
  rw [lg_entry_eq]
  exact body (p, e, (headSpec ws rm).room, s, m, av.toArray, below, meth, c, va_A w s.heap.size) ⟨⟨B.exec, B.bytes, hml, hown, atoms_spec (ws := ws) B.pre⟩, hK, hA, B.returns, B.notSynchronized, rfl, Nat.zero_le _, Nat.zero_le _⟩ s.heap [] _ hP hD0.self va_S.rf (lv_entry av hlen)
