/-! calls over xJ: the callee's world is the caller's whole world -/
section XCALL
variable {p : Program} {l : Launch} {e : Env} {R : Room} {s : State} {m : MethodId} {args : Array Value} {below : List Frame} {meth : Method} {c : Code} {H : Heap} {locs : List Loc} {cells slots : Nat} {Q : State → Prop}
variable {pc : Nat} {ls : Array Slot} {rest st0 : List Value} {a : Array Value} {A0 A1 : Nat → Prop} {H0 : Heap} {mc ms : Nat} {free : Addr → Prop}
theorem va_callX {D : va_G} {k : Nat → ClassId} {rv : Option Value} {w2 : va_W} (hr : va_Run p l e R s m args below meth c H locs cells slots mc ms (F0 m pc ls st0) rest (xQ D k A1 rv w2 a) free) (hS : va_S A0 H0 H locs) (hA : ∀ q, q < H.size → A1 q → A0 q) (hf : ∀ q, free q → A0 q)
    (kk : ∀ (t : State) (H1 : Heap) (locs1 : List Loc), t.heap = H1 → s.vm.Alike t.vm → va_P D vwCl w2 H1 → va_D A1 w2 → H.size ≤ H1.size → (∀ q : Nat, q < H.size → ¬ A1 q → H1[q]? = H[q]?) → va_S A0 H0 H1 locs1 → W p l e R s m args below meth c H1 locs1 (cells + mc) (slots + ms) Q (F0 m (pc + 3) ls (rv.toList ++ rest))) : W p l e R s m args below meth c H locs cells slots Q (F0 m pc ls st0) := by
  intro T hT X
  obtain ⟨v, st₀, t, T', L, h0, X', hL, e1, e2, ⟨⟨hv, hp, _, hd⟩, hz, hk⟩, st⟩ := hr T hT X
  cases hv
  rw [h0] at hz hk
  obtain ⟨t2, a1, b1⟩ := kk t T'.heap (locs ++ L) e1.symm (by rw [← e2]; exact X'.warmed.alike) (by rw [e1]; exact hp) hd (by rw [e1]; exact hz) (fun q h1 h2 => by rw [e1]; exact hk q h1 h2)
    ⟨Nat.le_trans hS.1 (by rw [e1]; exact hz), fun q h1 h2 => by rw [e1, hk q (Nat.lt_of_lt_of_le h1 hS.1) (fun z => h2 (hA q (Nat.lt_of_lt_of_le h1 hS.1) z))]; exact hS.2.1 q h1 h2, fun q hq => by
      rcases List.mem_append.mp hq with h | h
      · exact hS.2.2 q h
      · exact hf _ (hL q h)⟩ T' rfl X'
  exact ⟨t2, st t2 a1, b1⟩
end XCALL
theorem xM_blind {D : va_G} {k : Nat → ClassId} {av : List Value} {w : va_W} {sz : Nat} : FrameBlind (va_Pc av (fun U => U.heap.size = sz ∧ va_P D vwCl w U.heap ∧ va_K D vwCl (xT k) U ∧ va_D (fun _ => True) w)) := fun a U g mk q => by
  obtain ⟨q0, q1, qP, qK, qD⟩ := q
  exact ⟨q0, q1, qP, va_K.moved (u := U) (U := U.calling g mk a) (Vm.Alike.refl U.vm) qK, qD⟩
theorem xj_callV {l : Launch} {D : va_G} {k : Nat → ClassId} {o : xO} {X : xX} {cc : ByteArray} {nL : Nat} {own : String} {Ts : List Cond} {ret : Option FieldType} {rm : Room} (C : xC D k o X cc nL own Ts ret rm) {pc : Nat} {L : List (Nat × Value)} {ws : va_W}
    {y : MethodName} {bytes : ByteArray} {maxL b index ci N : Nat} {T : u_T} {retc : Option FieldType} {wsc ws1 : List Cond} {rmc : Room} {ws2 : va_W} {rvc : Option Value} {Cn : String} {fs : List Value} (As rest : List Value) (n : Nat)
    (hM : xM l y wsc rmc D k (.ref b :: As) ws rvc ws2) (hG : GoodIn Ts (wsV own index Cn y wsc)) (hw : wsc = .code y bytes maxL retc :: ws1) (hz : rmc.cells = 0 ∧ rmc.slots = 0)
    (hd0 : y.cls = Cn ∧ y.cls ≠ "java/lang/invoke/MethodHandle" ∧ y.cls ≠ "java/lang/invoke/VarHandle" ∧ (parseMethodDescriptor y.desc).map (fun d => d.parameters.length) = some n) (hR0 : rmc.frames + 1 ≤ rm.frames ∧ 8 + (maxL + 11) + rmc.locals ≤ rm.locals)
    (q0 : Nat) (he : ws[q0]? = some (b, .inr (ci, fs))) (hc : vwCl[ci]? = some (Cn, T, N)) (hn : As.length = n) (hcat : (rest.map fun v => v.category).sum ≤ 8) (hdg : decode cc pc = .ok (.invokevirtual index, 3))
    (kk : xJ l D k o X nL (pc + 3) L (rvc.toList ++ rest) ws2) : xJ l D k o X nL pc L (As.reverse ++ .ref b :: rest) ws := by
  obtain ⟨p, e, R, s, m, args, below, meth, c, A⟩ := X
  obtain ⟨⟨hx, hb, hml, hown, hts⟩, hK, hA, hr, hlk, hR, ho⟩ := C
  intro H locs ls hP hD hS hl
  subst hR
  have hF : ∀ q, va_A ws H.size q → A q := by
    rintro q (⟨k2, e2, h⟩ | h)
    · exact hD.2 k2 (q, e2) h
    · exact hA q (Nat.le_trans hS.1 h)
  refine va_callX (va_runV (As := As) (rest := rest) ⟨hx, hb, hml, hown, hts⟩ (hM H.size) (cwV n hts hG hw hz.1 hz.2 hd0 hR0) ⟨xM_blind, va_recv hK hP hc he, fun U hU hW => ⟨rfl, by rw [hU], by rw [hU]; exact hP, va_K.moved hW.alike hK, hD.weaken (fun _ _ _ _ => trivial)⟩⟩ rfl hn hl.1 rfl (lv_room hcat) hdg ho) hS (fun q _ h => hF q h) hF (fun t H1 locs1 ht hvm hP1 hD1 hz1 hk1 hS1 => ?_)
  exact kk H1 locs1 ls hP1 (hD1.weaken (fun k q _ h => hF q.1 h)) hS1 hl
theorem xj_callS {l : Launch} {D : va_G} {k : Nat → ClassId} {o : xO} {X : xX} {cc : ByteArray} {nL : Nat} {own : String} {Ts : List Cond} {ret : Option FieldType} {rm : Room} (C : xC D k o X cc nL own Ts ret rm) {pc : Nat} {L : List (Nat × Value)} {ws : va_W}
    {y : MethodName} {bytes : ByteArray} {maxL index : Nat} {retc : Option FieldType} {wsc ws1 : List Cond} {rmc : Room} {ws2 : va_W} {rvc : Option Value} (As rest : List Value) (n : Nat)
    (hM : xM l y wsc rmc D k As ws rvc ws2) (hG : GoodIn Ts (va_wsS own index y wsc)) (hw : wsc = .code y bytes maxL retc :: ws1) (hz : rmc.cells = 0 ∧ rmc.slots = 0)
    (hd0 : y.cls ≠ "java/lang/invoke/MethodHandle" ∧ y.cls ≠ "java/lang/invoke/VarHandle" ∧ (parseMethodDescriptor y.desc).map (fun d => d.parameters.length) = some n) (hR0 : rmc.frames + 1 ≤ rm.frames ∧ 8 + (maxL + 11) + rmc.locals ≤ rm.locals)
    (hn : As.length = n) (hcat : (rest.map fun v => v.category).sum ≤ 8) (hdg : decode cc pc = .ok (.invokestatic index, 3))
    (kk : xJ l D k o X nL (pc + 3) L (rvc.toList ++ rest) ws2) : xJ l D k o X nL pc L (As.reverse ++ rest) ws := by
  obtain ⟨p, e, R, s, m, args, below, meth, c, A⟩ := X
  obtain ⟨⟨hx, hb, hml, hown, hts⟩, hK, hA, hr, hlk, hR, ho⟩ := C
  intro H locs ls hP hD hS hl
  subst hR
  have hF : ∀ q, va_A ws H.size q → A q := by
    rintro q (⟨k2, e2, h⟩ | h)
    · exact hD.2 k2 (q, e2) h
    · exact hA q (Nat.le_trans hS.1 h)
  refine va_callX (va_runS (As := As) (rest := rest) ⟨hx, hb, hml, hown, hts⟩ (hM H.size) (va_cwS n hts hG hw hz.1 hz.2 hd0 hR0) ⟨xM_blind, fun U hU hW => ⟨rfl, by rw [hU], by rw [hU]; exact hP, va_K.moved hW.alike hK, hD.weaken (fun _ _ _ _ => trivial)⟩⟩ rfl hn hl.1 rfl (lv_room hcat) hdg ho) hS (fun q _ h => hF q h) hF (fun t H1 locs1 ht hvm hP1 hD1 hz1 hk1 hS1 => ?_)
  exact kk H1 locs1 ls hP1 (hD1.weaken (fun k q _ h => hF q.1 h)) hS1 hl
theorem xj_copy {l : Launch} {D : va_G} {k : Nat → ClassId} {o : xO} {X : xX} {cc : ByteArray} {nL : Nat} {own : String} {Ts : List Cond} {ret : Option FieldType} {rm : Room} (C : xC D k o X cc nL own Ts ret rm) {pc : Nat} {L : List (Nat × Value)} {st : List Value} {ws ws1 : va_W}
    {index : Nat} (q0 q1 : Nat) {a0 a1 n0 n1 : Nat} {f g : Nat → Int32} (ha0 : ws[q0]? = some (a0, .inl (k 0, n0, .inl f))) (ha1 : ws[q1]? = some (a1, .inl (k 0, n1, .inl g))) {n : Int} (hg : 0 ≤ n ∧ n ≤ (n0 : Int) ∧ n ≤ (n1 : Int)) (hn0 : n0 < 2147483648)
    (hw : ws.set q1 (a1, .inl (k 0, n1, .inl (va_cpy f g 0 0 n.toNat))) = ws1) (hlink : Cond.methodLink own index arraycopyName ∈ Ts) (hnat : Cond.native arraycopyName ∈ Ts) (hstat : Cond.static arraycopyName ∈ Ts) (hini : Cond.initialized "java/lang/System" ∈ Ts)
    (hfr : 1 ≤ rm.frames) (hlo : (st.map fun v => v.category).sum + (nativeFrameWords "java/lang/System" "arraycopy" 5 + 11) ≤ rm.locals) (hdg : decode cc pc = .ok (.invokestatic index, 3))
    (kk : xJ l D k o X nL (pc + 3) L st ws1) : xJ l D k o X nL pc L (.int (xi n) :: .int (xi 0) :: .ref a1 :: .int (xi 0) :: .ref a0 :: st) ws := by
  obtain ⟨p, e, R, s, m, args, below, meth, c, A⟩ := X
  obtain ⟨⟨hx, hb, hml, hown, hts⟩, hK, hA, hr, hlk, hR, ho⟩ := C
  intro H locs ls hP hD hS hl
  subst hR
  have en : (xi n).toNatClampNeg = n.toNat := xi_cl ⟨hg.1, by omega⟩
  have e0 : (xi 0).toNatClampNeg = 0 := by decide
  have nn : ¬ xi n < 0 := fun h => by
    have h2 := (xi_lt (x := n) (y := 0) ⟨by omega, by omega⟩ xr_0).mp h
    omega
  refine va_copyi hx hb (hml.trans hl.1.symm) hown (hts _ hlink) (hts _ hnat) (hts _ hstat) (hts _ hini) hK hP hD hS q0 q1 0 0 ha0 ha1 rfl rfl rfl (by decide) (by decide) nn (by rw [e0, en]; omega) (by rw [e0, en]; omega) (fun _ _ => rfl) hfr hlo hdg ?_
  rw [e0, en, hw]
  exact fun H1 locs1 hP1 hD1 hS1 => kk H1 locs1 ls hP1 hD1 hS1 hl
