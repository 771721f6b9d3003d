/-! what the law's walk wants beside the rules: the script, calls over one of two worlds, equal answers -/
def xL (b N : Nat) (sx : Int → Int) (X : xX) : Prop := match X with
  | (_, _, _, s, _, _, _, _, _, A) => va_X b N (fun j => xi (sx (j : Int))) s s.heap ∧ b < s.heap.size ∧ ¬ A b ∧ ∀ j, xr (sx j)
theorem xL.r {b N : Nat} {sx : Int → Int} {X : xX} (h : xL b N sx X) (j : Int) : xr (sx j) := by
  obtain ⟨p, e, R, s, m, args, below, meth, c, A⟩ := X
  exact h.2.2.2 j
theorem xj_sldL {l : Launch} {D : va_G} {k : Nat → ClassId} {o : xO} {X : xX} {cc : ByteArray} {nL : Nat} {own : String} {Ts : List Cond} {ret : Option FieldType} {rm : Room} (C : xC D k o X cc nL own Ts ret rm) {pc : Nat} {L : List (Nat × Value)} {st : List Value} {ws : va_W} {b N : Nat} {sx : Int → Int} (hX : xL b N sx X) {i : Int} (hg : 0 ≤ i ∧ i < (N : Int)) (hN : N ≤ 2048) (hd : decode cc pc = .ok (.iaload, 1)) (kk : xJ l D k o X nL (pc + 1) L (.int (xi (sx i)) :: st) ws) : xJ l D k o X nL pc L (.int (xi i) :: .ref b :: st) ws := by
  obtain ⟨p, e, R, s, m, args, below, meth, c, A⟩ := X
  obtain ⟨⟨hx, hb, hml, hown, hts⟩, hK, hA, hr, hlk, hR, ho⟩ := C
  intro H locs ls hP hD hS hl
  refine va_sld hx hb hX.1 hX.2.1 hX.2.2.1 hS (xi_in hg (by omega)) hd ?_
  rw [xi_cl ⟨hg.1, by omega⟩, Int.toNat_of_nonneg hg.1]
  exact kk H locs ls hP hD hS hl
theorem xj_slenL {l : Launch} {D : va_G} {k : Nat → ClassId} {o : xO} {X : xX} {cc : ByteArray} {nL : Nat} {own : String} {Ts : List Cond} {ret : Option FieldType} {rm : Room} (C : xC D k o X cc nL own Ts ret rm) {pc : Nat} {L : List (Nat × Value)} {st : List Value} {ws : va_W} {b N : Nat} {sx : Int → Int} (hX : xL b N sx X) (hd : decode cc pc = .ok (.arraylength, 1)) (kk : xJ l D k o X nL (pc + 1) L (.int (xi (N : Int)) :: st) ws) : xJ l D k o X nL pc L (.ref b :: st) ws := by
  obtain ⟨p, e, R, s, m, args, below, meth, c, A⟩ := X
  obtain ⟨⟨hx, hb, hml, hown, hts⟩, hK, hA, hr, hlk, hR, ho⟩ := C
  intro H locs ls hP hD hS hl
  refine va_slen hx hb hX.1 hX.2.1 hX.2.2.1 hS hd ?_
  have e : (Int32.ofNat N) = xi (N : Int) := (xi_nat N).symm
  first | exact e ▸ kk H locs ls hP hD hS hl | (rw [show nI N = xi (N : Int) from (xi_nat N).symm]; exact kk H locs ls hP hD hS hl)
theorem xj_icmp_same {l : Launch} {D : va_G} {k : Nat → ClassId} {o : xO} {X : xX} {cc : ByteArray} {nL : Nat} {own : String} {Ts : List Cond} {ret : Option FieldType} {rm : Room} (C : xC D k o X cc nL own Ts ret rm) {pc : Nat} {L : List (Nat × Value)} {st : List Value} {ws : va_W} {off : Int} {tgt : Nat} {v : Int32} (hd : decode cc pc = .ok (.if_icmp .eq off, 3)) (ht : (pc : Int) + off = (tgt : Int)) (kt : xJ l D k o X nL tgt L st ws) : xJ l D k o X nL pc L (.int v :: .int v :: st) ws := by
  obtain ⟨p, e, R, s, m, args, below, meth, c, A⟩ := X
  obtain ⟨⟨hx, hb, hml, hown, hts⟩, hK, hA, hr, hlk, hR, ho⟩ := C
  intro H locs ls hP hD hS hl
  exact lv_icmp_eq hx hb hd ht (fun _ => kt H locs ls hP hD hS hl) (fun c => absurd rfl c)
theorem xb_lcmp_s (x : Int64) : xb_lcmp x x = 0 := by
  unfold xb_lcmp
  rw [if_neg (show ¬ x > x from fun h => Int64.lt_irrefl h), if_pos rfl]
def xzz (x : Int) : Int := if x = 0 then 0 else 1
theorem xzz_0 {x : Int} (h : x = 0) : xzz x = 0 := if_pos h
theorem xzz_1 {x : Int} (h : ¬ x = 0) : xzz x = 1 := if_neg h
theorem xzz_01 (x : Int) : xzz x = 0 ∨ xzz x = 1 := by
  by_cases h : x = 0
  · exact Or.inl (xzz_0 h)
  · exact Or.inr (xzz_1 h)
theorem xw_l (A B : va_W) {n : Nat} (h : A.length = n) : (List.range n).map (fun i => (A ++ B)[i]?) = A.map some := by
  subst h
  apply List.ext_getElem?
  intro i
  rw [List.getElem?_map, List.getElem?_map]
  by_cases hi : i < A.length
  · rw [List.getElem?_range hi, Option.map_some, List.getElem?_append_left hi, List.getElem?_eq_getElem hi]
    rfl
  · rw [List.getElem?_eq_none (by simpa using hi), List.getElem?_eq_none (by omega)]
    rfl
theorem xw_r (A B : va_W) {n m : Nat} (h : A.length = n) (h2 : B.length = m) : ((List.range m).map (· + n)).map (fun i => (A ++ B)[i]?) = B.map some := by
  subst h; subst h2
  apply List.ext_getElem?
  intro i
  rw [List.getElem?_map, List.getElem?_map, List.getElem?_map]
  by_cases hi : i < B.length
  · rw [List.getElem?_range hi, Option.map_some, Option.map_some, List.getElem?_append_right (by omega), Nat.add_sub_cancel, List.getElem?_eq_getElem hi]
    rfl
  · rw [List.getElem?_eq_none (by simpa using hi), List.getElem?_eq_none (by omega)]
    rfl
theorem xj_callL {l : Launch} {D : va_G} {k : Nat → ClassId} {o : xO} {X : xX} {cc : ByteArray} {nL : Nat} {own : String} {Ts : List Cond} {ret : Option FieldType} {rm : Room} (C : xC D k o X cc nL own Ts ret rm) {pc : Nat} {L : List (Nat × Value)}
    {y : MethodName} {bytes : ByteArray} {maxL b index ci N : Nat} {T : u_T} {retc : Option FieldType} {wsc ws1 : List Cond} {rmc : Room} {ws2 : va_W} {rvc : Option Value} {Cn : String} {fs : List Value} (As rest : List Value) (n : Nat) {A1 B1 : va_W} (na nb : Nat) (hA1 : A1.length = na) (hB1 : B1.length = nb) (hn1 : va_nd (List.range na) = true) (hn2 : va_nd ((List.range nb).map (· + na)) = true) (hdis : ∀ i ∈ (List.range nb).map (· + na), i ∉ List.range na)
    (hM : xM l y wsc rmc D k (.ref b :: As) A1 rvc ws2) (hG : GoodIn Ts (wsV own index Cn y wsc)) (hw : wsc = .code y bytes maxL retc :: ws1) (hz : rmc.cells = 0 ∧ rmc.slots = 0)
    (hd0 : y.cls = Cn ∧ y.cls ≠ "java/lang/invoke/MethodHandle" ∧ y.cls ≠ "java/lang/invoke/VarHandle" ∧ (parseMethodDescriptor y.desc).map (fun d => d.parameters.length) = some n) (hR0 : rmc.frames + 1 ≤ rm.frames ∧ 8 + (maxL + 11) + rmc.locals ≤ rm.locals)
    (q0 : Nat) (he : A1[q0]? = some (b, .inr (ci, fs))) (hc : vwCl[ci]? = some (Cn, T, N)) (hn : As.length = n) (hcat : (rest.map fun v => v.category).sum ≤ 8) (hdg : decode cc pc = .ok (.invokevirtual index, 3))
    (kk : xJ l D k o X nL (pc + 3) L (rvc.toList ++ rest) (B1 ++ ws2)) : xJ l D k o X nL pc L (As.reverse ++ .ref b :: rest) (A1 ++ B1) :=
  xj_callVs C As rest n (List.range na) ((List.range nb).map (· + na)) (wc := A1) (wr := B1) (xw_l A1 B1 hA1) (xw_r A1 B1 hA1 hB1) hn1 hn2 hdis hM hG hw hz hd0 hR0 q0 he hc hn hcat hdg kk
