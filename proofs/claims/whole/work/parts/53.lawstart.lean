/-! the law from its entry, over what is owed of the two sides (by program: wip/whole/mkstart.py; the first and last rows are the skeleton's) -/

/-! THE CLAIM OUT OF ONE WALK OF THE LAW'S BODY. Your part is whole_start (and what it stands on); all else here is the same for every law, but numbers. -/
def R_law : String := "TileArrayLaw"
def lw_P (b : Addr) (xs : List Int32) (args : Array Value) (s : State) : Prop := args = #[.ref b] ∧ s.IntsAt b xs ∧ xs.length ≤ 2048 ∧ (Jvm.Cond.and given_1 narrow_1).before args s = true
/-- what a walk over the start with the record d0 says of its end, said of the start itself -/
theorem lw_closed {s t : State} {o : Outcome} {d0 : Drawn} {L : List Loc} {k n : Nat} (hd0 : s.drawn.sameBut d0 lw_cs) (hv : ∃ v, o = .returned v) (hW : (s.setDrawn d0).WarmedH t.vm) (hs : (s.setDrawn d0).sameButNew ({ t with vm := s.vm } : State) L k n) : State.butDraws s t lw_cs (fun t1 => Framed s o t1 L k n) := by
  have h2 : t.drawn = d0 := congrArg State.drawn hs.1
  refine ⟨⟨hv, hW, State.sameButNew.setDrawn hs s.drawn⟩, ?_, by decide⟩
  rw [h2]
  exact hd0
def lw_Q (_ : Array Value) (s : State) (o : Outcome) (t : State) : Prop := o = .returned (some (.int 1)) ∧ State.butDraws s t lw_cs (fun t1 => Framed s o t1 [] 68 5190)
def lw_Z (below : List Frame) (a : Array Value) (s : State) : State → Prop := fun t => ∃ o, t.status = .running ∧ Ended t below o ∧ lw_Q a s o t
/-- the law's own end, with 1 on the stack, nothing written that was there before, its room as the claim has it; d0: the record of draws at this point (at the entry s.drawn: begin with 'refine W.base ?_' and 'have hd0 := Drawn.sameBut.refl s.drawn lw_cs') -/
theorem lw_ret {p : Program} {l : Launch} {e : Env} {s : State} {m : MethodId} {below : List Frame} {meth : Method} {c : Code} {b : Nat} {d0 : Drawn} (hd0 : s.drawn.sameBut d0 lw_cs) (hx : p.tables.exec = Jvm.exec) (hb : c.code = code) (hr : meth.sig.returnType = ret) (hlocks : meth.locks = false) {pc : Nat} {H : Heap} {ls : Array Slot} (hdg : decode code pc = .ok (.ireturn, 1)) : W p l e room_1 (s.setDrawn d0) m #[Value.ref b] below meth c H [] 68 5190 (lw_Z below #[Value.ref b] s) (F0 m pc ls [.int 1]) := by
  intro T hT X
  obtain ⟨fs, hret, hrun, hended, hW, hframe⟩ := X.leave (v := some (.int 1)) (hlocks := hlocks) (fun h => by rw [hr] at h; cases h)
  have hmeth' : T.vm.method? m = some meth := X.method'
  refine ⟨T.setFrames fs, ?_, .returned (some (.int 1)), hrun, hended, rfl, lw_closed hd0 ⟨_, rfl⟩ hW hframe⟩
  jvm_step X.here [X.here.top, hx, hb, hdg, hmeth', hr, ret, narrow_b1]
  (try refine ⟨rfl, ?_⟩); (try refine ⟨rfl, ?_⟩)
  first | (intro acts; rw [hret _ acts rfl rfl rfl]) | rw [hret _ _ rfl rfl rfl]
  exact Steps.refl _
/-- what holds at the law's entry: the machine, the code, the tables' words (any of lw_tbl by 'hts w (by decide +kernel)'), the script of L ints xs at the cell b, what the Statement gives of the start (any of its parts by flat_of_before) -/
def lw_At (p : Program) (s : State) (m : MethodId) (meth : Method) (c : Code) (b L : Nat) (xs : Nat → Int32) : Prop :=
  p.tables.exec = Jvm.exec ∧ c.code = code ∧ meth.sig.returnType = ret ∧ c.maxLocals = 8 ∧ s.vm.findClass R_law = some m.cls ∧ (∀ w ∈ lw_tbl, w.before #[Value.ref b] s = true) ∧ va_X b L xs s s.heap ∧ b < s.heap.size ∧ meth.locks = false ∧ (Jvm.Cond.and given_1 narrow_1).before #[Value.ref b] s = true

set_option maxRecDepth 100000 in
set_option maxHeartbeats 16000000 in
theorem whole_start_of {Rel : xS → xS → Prop} (h_cell : E_cell Rel) (h_connect : E_connect Rel) (h_output : E_output Rel) (h_fix : E_fix Rel) (h_build : E_build Rel) (h_tileOf : E_tileOf Rel) (h_cost : E_cost Rel) (h_bits : E_bits Rel) (h_load : E_load Rel) (h_checkSum : E_checkSum Rel) (h_pin : E_pin Rel) (h_outputOf : E_outputOf Rel) (h_channels : E_channels Rel) (h_longest : E_longest Rel) (h_slack : E_slack Rel) (h_reset : E_reset Rel) (h_clock : E_clock Rel) (h_run : E_run Rel) {SF SY : xS} (hSF : m_X1_init = some SF) (hSY : m_X9_init = some SY) (hRel : Rel (xSX SF) SY) {p : Program} {e : Env} {s : State} {m : MethodId} {below : List Frame} {meth : Method} {c : Code} (l : Launch) {b L : Nat} {xs : Nat → Int32} (hL : L ≤ 2048) (C0 : lw_At p s m meth c b L xs) : W p l e room_1 s m #[Value.ref b] below meth c s.heap [] 0 0 (lw_Z below #[Value.ref b] s) (entryFrame m ([Value.ref b] : List Value).toArray 8) := by
  obtain ⟨hx, hb, hr, hml, hown, hts, hXs, hbl, hlocks, hgv⟩ := id C0
  have hfl := flat_of_before _ hgv
  have hnA : ∀ a : Nat, a < s.heap.size → ¬ (fun q : Nat => s.heap.size ≤ q) a := fun a h => Nat.not_le.mpr h
  have hA : ∀ q : Nat, s.heap.size ≤ q → (fun q : Nat => s.heap.size ≤ q) q := fun _ h => h
  obtain ⟨t_row, ev_row, hT_row⟩ := va_Tof (s := s) (args := #[.ref b]) (tm := .static "TileArray$Fabric" "ROW_STEP" "[I") (ty := .int) (N := 4) (f := fun j => .int (xrs j)) (A := fun q : Nat => s.heap.size ≤ q) (by decide) (hfl _ (by decide +kernel)) (va_eqt (hfl _ (by decide +kernel))) (fun j hj => by
    rcases (show j = 0 ∨ j = 1 ∨ j = 2 ∨ j = 3 by omega) with rfl | rfl | rfl | rfl
    · exact va_eqt (z := xrs 0) (hfl _ (by decide +kernel))
    · exact va_eqt (z := xrs 1) (hfl _ (by decide +kernel))
    · exact va_eqt (z := xrs 2) (hfl _ (by decide +kernel))
    · exact va_eqt (z := xrs 3) (hfl _ (by decide +kernel))) hnA
  obtain ⟨t_col, ev_col, hT_col⟩ := va_Tof (s := s) (args := #[.ref b]) (tm := .static "TileArray$Fabric" "COLUMN_STEP" "[I") (ty := .int) (N := 4) (f := fun j => .int (xcs j)) (A := fun q : Nat => s.heap.size ≤ q) (by decide) (hfl _ (by decide +kernel)) (va_eqt (hfl _ (by decide +kernel))) (fun j hj => by
    rcases (show j = 0 ∨ j = 1 ∨ j = 2 ∨ j = 3 by omega) with rfl | rfl | rfl | rfl
    · exact va_eqt (z := xcs 0) (hfl _ (by decide +kernel))
    · exact va_eqt (z := xcs 1) (hfl _ (by decide +kernel))
    · exact va_eqt (z := xcs 2) (hfl _ (by decide +kernel))
    · exact va_eqt (z := xcs 3) (hfl _ (by decide +kernel))) hnA
  obtain ⟨c0, iS0, hKn0⟩ := u_known (C := RX0) (T := TX0) (N := 11) (n := 11) hts inX0 (hts (.instantiable RX0 11) (by decide +kernel))
  obtain ⟨c1, iS1, hKn1⟩ := u_known (C := RX1) (T := TX1) (N := 4) (n := 4) hts inX1 (hts (.instantiable RX1 4) (by decide +kernel))
  obtain ⟨c2, iS2, hKn2⟩ := u_known (C := RX2) (T := TX2) (N := 2) (n := 2) hts inX2 (hts (.instantiable RX2 2) (by decide +kernel))
  obtain ⟨c3, iS3, hKn3⟩ := u_known (C := RX3) (T := TX3) (N := 4) (n := 4) hts inX3 (hts (.instantiable RX3 4) (by decide +kernel))
  obtain ⟨c4, iS4, hKn4⟩ := u_known (C := RX4) (T := TX4) (N := 11) (n := 11) hts inX4 (hts (.instantiable RX4 11) (by decide +kernel))
  obtain ⟨c5, iS5, hKn5⟩ := u_known (C := RX5) (T := TX5) (N := 6) (n := 6) hts inX5 (hts (.instantiable RX5 6) (by decide +kernel))
  obtain ⟨c6, iS6, hKn6⟩ := u_known (C := RX6) (T := TX6) (N := 3) (n := 3) hts inX6 (hts (.instantiable RX6 3) (by decide +kernel))
  obtain ⟨c7, iS7, hKn7⟩ := u_known (C := RX7) (T := TX7) (N := 4) (n := 4) hts inX7 (hts (.instantiable RX7 4) (by decide +kernel))
  obtain ⟨c8, iS8, hKn8⟩ := u_known (C := RX8) (T := TX8) (N := 8) (n := 8) hts inX8 (hts (.instantiable RX8 8) (by decide +kernel))
  obtain ⟨c9, iS9, hKn9⟩ := u_known (C := RX9) (T := TX9) (N := 28) (n := 28) hts inX9 (hts (.instantiable RX9 28) (by decide +kernel))
  obtain ⟨k0, kA0, cp0, hf0, hk0, hkk0⟩ := Cond.arrayClass_spec (hts (.arrayClass .int) (by decide +kernel))
  obtain ⟨k1, kA1, cp1, hf1, hk1, hkk1⟩ := Cond.arrayClass_spec (hts (.arrayClass .boolean) (by decide +kernel))
  obtain ⟨k2, kA2, cp2, hf2, hk2, hkk2⟩ := Cond.arrayClass_spec (hts (.arrayClass .long) (by decide +kernel))
  obtain ⟨k3, kA3, cp3, hf3, hk3, hkk3⟩ := Cond.arrayClass_spec (hts (.arrayClass .double) (by decide +kernel))
  obtain ⟨D, k, hK⟩ : ∃ (D : va_G) (k : Nat → ClassId), va_K D vwCl (xT k) s := by
    refine ⟨(fun q => match q with | 0 => c0 | 1 => c1 | 2 => c2 | 3 => c3 | 4 => c4 | 5 => c5 | 6 => c6 | 7 => c7 | 8 => c8 | _ => c9, fun q => match q with | 0 => iS0 | 1 => iS1 | 2 => iS2 | 3 => iS3 | 4 => iS4 | 5 => iS5 | 6 => iS6 | 7 => iS7 | 8 => iS8 | _ => iS9), fun q => match q with | 0 => k0 | 1 => k1 | 2 => k2 | _ => k3, ?_, ?_⟩
    · intro c q hq
      match c, hq with
      | 0, hq => cases hq; exact hKn0
      | 1, hq => cases hq; exact hKn1
      | 2, hq => cases hq; exact hKn2
      | 3, hq => cases hq; exact hKn3
      | 4, hq => cases hq; exact hKn4
      | 5, hq => cases hq; exact hKn5
      | 6, hq => cases hq; exact hKn6
      | 7, hq => cases hq; exact hKn7
      | 8, hq => cases hq; exact hKn8
      | 9, hq => cases hq; exact hKn9
      | c + 10, hq => simp [vwCl] at hq
    · intro c q hq
      match c, hq with
      | 0, hq => cases hq; exact ⟨fun n z => ⟨fun k h => (by cases h), kA0, hk0, cp0, hkk0⟩, hf0⟩
      | 1, hq => cases hq; exact ⟨fun n z => ⟨fun k h => (by cases h), kA1, hk1, cp1, hkk1⟩, hf1⟩
      | 2, hq => cases hq; exact ⟨fun n z => ⟨fun k h => (by cases h), kA2, hk2, cp2, hkk2⟩, hf2⟩
      | 3, hq => cases hq; exact ⟨fun n z => ⟨fun k h => (by cases h), kA3, hk3, cp3, hkk3⟩, hf3⟩
      | c + 4, hq => simp at hq
  have hP : va_P D vwCl [] s.heap := fun k q h => by simp at h
  have hD : va_D (fun q : Nat => s.heap.size ≤ q) [] := ⟨fun i j p q h => by simp at h, fun k q h => by simp at h⟩
  have hZ : xz t_row t_col (fun q : Nat => s.heap.size ≤ q) s s.heap := ⟨va_Zref (hts _ (by decide +kernel)) (hts _ (by decide +kernel)) ev_row hnA, va_Zref (hts _ (by decide +kernel)) (hts _ (by decide +kernel)) ev_col hnA, hT_row, hT_col⟩
  have hSx : va_X b L (fun j => xi ((fun q : Int => (xs q.toNat).toInt) (j : Int))) s s.heap := by
    have e : (fun j : Nat => xi ((fun q : Int => (xs q.toNat).toInt) (j : Int))) = xs := by
      funext j
      show xi (xs ((j : Int)).toNat).toInt = xs j
      rw [xi_of, Int.toNat_natCast]
    rw [e]
    exact hXs
  have hl := lv_entry ([.ref b]) (n := 8) (Nat.le_of_ble_eq_true rfl)
  rw [lg_entry_eq]
  generalize (lg_sl ([.ref b]) ++ List.replicate (8 - (lg_sl ([.ref b])).length) Slot.unset).toArray = ls at hl ⊢
  have hl : lv_has ls 8 [(0, .ref b)] := hl
  obtain ⟨X, eX⟩ : ∃ X : xX, X = (p, e, room_1, s, m, #[Value.ref b], below, meth, c, fun q : Nat => s.heap.size ≤ q) := ⟨_, rfl⟩
  have C : xC D k (0, 0, lw_Z below #[Value.ref b] s) X cL_law 8 RL wsL_law (some .boolean) room_1 := by
    subst eX
    exact ⟨⟨hx, hb, hml, hown, fun w h => hts w (wsL_law_in w h)⟩, hK, hA, hr, hlocks, rfl, Nat.zero_le _, Nat.zero_le _⟩
  have Z : xZ t_row t_col X := by
    subst eX
    exact hZ
  have hX : xL b L (fun q : Int => (xs q.toNat).toInt) X := by
    subst eX
    exact ⟨hSx, hbl, hnA b hbl, fun j => xr_toInt _⟩
  have hend : ∀ (ad ad2 : Nat → Nat) (i : Int) (S T : xS), xJ l D k (68, 5190, lw_Z below #[Value.ref b] s) X 8 707 [(0, .ref b), (1, .ref (ad 34)), (2, .ref (ad2 24)), (3, .int (xi i))] [] (wX ad k S ++ wY ad2 k T) := by
    subst eX
    intro ad ad2 i S T H locs ls hP hD hS hl
    refine lv_iconst (v := 1) hx hb dL_law_707 (by decide) ?_
    refine va_forget (fun q hq => hS.2.2 q hq) ?_
    exact lw_ret (d0 := s.drawn) (Drawn.sameBut.refl s.drawn lw_cs) hx hb hr hlocks dL_law_708
  have main : xJ l D k (0, 0, lw_Z below #[Value.ref b] s) X 8 0 [(0, .ref b)] [] [] := by
    refine xj_new C (ci := 8) inlX8 tyX8 tyX8_ok (List.mem_of_getElem? (i := 0) rfl) (List.mem_of_getElem? (i := 1) rfl) (List.mem_of_getElem? (i := 2) rfl) rfl [.null, .null, .null, .null, .null, .null, .null, .int (xi 0)] (fun j hj => by rcases (show j = 0 ∨ j = 1 ∨ j = 2 ∨ j = 3 ∨ j = 4 ∨ j = 5 ∨ j = 6 ∨ j = 7 by omega) with rfl | rfl | rfl | rfl | rfl | rfl | rfl | rfl <;> rfl) ⟨Nat.le_of_ble_eq_true rfl, Nat.le_of_ble_eq_true rfl⟩ dL_law_0 (fun a1 C => ?_)
    show xJ l D k (1, 8, _) X 8 3 [(0, .ref b)] [.ref a1] [(a1, .inr (8, [.null, .null, .null, .null, .null, .null, .null, .int (xi 0)]))]
    refine xj_dup C rfl dL_law_3 ?_
    refine xj_callN C [] [.ref a1] 0 [0] [] (wc := [(a1, .inr (8, [.null, .null, .null, .null, .null, .null, .null, .int (xi 0)]))]) (wr := []) rfl rfl (by decide) (by decide) (by decide) (fun _ => Z) (c_X8_init (sa := t_row) (sb := t_col) hSF) gL_law_X8_init rfl ⟨rfl, rfl⟩ (List.mem_of_getElem? (i := 2) rfl) (List.mem_of_getElem? (i := 8) rfl) (List.mem_of_getElem? (i := 9) rfl) rfl hv_X8_init ⟨Nat.le_of_ble_eq_true rfl, Nat.le_of_ble_eq_true rfl⟩ rfl (Nat.le_of_ble_eq_true rfl) ⟨Nat.le_of_ble_eq_true rfl, Nat.le_of_ble_eq_true rfl⟩ dL_law_4 ?_
    rintro w2 ⟨ad, rfl, rfl⟩ C
    show xJ l D k (43, 3880, _) X 8 7 [(0, .ref b)] [.ref (ad 34)] (wX ad k (xSX SF))
    refine xj_astore_n C (L1 := [(1, .ref (ad 34)), (0, .ref b)]) dL_law_7 rfl (by decide) rfl ?_
    refine xj_new C (ci := 9) inlX9 tyX9 tyX9_ok (List.mem_of_getElem? (i := 3) rfl) (List.mem_of_getElem? (i := 4) rfl) (List.mem_of_getElem? (i := 5) rfl) rfl [.null, .null, .null, .null, .null, .null, .int (xi 0), .null, .null, .null, .null, .null, .null, .int (xi 0), .int (xi 0), .null, .null, .null, .null, .null, .null, .null, .null, .null, .null, .int (xi 0), .null, .null] (fun j hj => by rcases (show j = 0 ∨ j = 1 ∨ j = 2 ∨ j = 3 ∨ j = 4 ∨ j = 5 ∨ j = 6 ∨ j = 7 ∨ j = 8 ∨ j = 9 ∨ j = 10 ∨ j = 11 ∨ j = 12 ∨ j = 13 ∨ j = 14 ∨ j = 15 ∨ j = 16 ∨ j = 17 ∨ j = 18 ∨ j = 19 ∨ j = 20 ∨ j = 21 ∨ j = 22 ∨ j = 23 ∨ j = 24 ∨ j = 25 ∨ j = 26 ∨ j = 27 by omega) with rfl | rfl | rfl | rfl | rfl | rfl | rfl | rfl | rfl | rfl | rfl | rfl | rfl | rfl | rfl | rfl | rfl | rfl | rfl | rfl | rfl | rfl | rfl | rfl | rfl | rfl | rfl | rfl <;> rfl) ⟨Nat.le_of_ble_eq_true rfl, Nat.le_of_ble_eq_true rfl⟩ dL_law_8 (fun a2 C => ?_)
    show xJ l D k (44, 3908, _) X 8 11 [(1, .ref (ad 34)), (0, .ref b)] [.ref a2] (wX ad k (xSX SF) ++ [(a2, .inr (9, [.null, .null, .null, .null, .null, .null, .int (xi 0), .null, .null, .null, .null, .null, .null, .int (xi 0), .int (xi 0), .null, .null, .null, .null, .null, .null, .null, .null, .null, .null, .int (xi 0), .null, .null]))])
    refine xj_dup C rfl dL_law_11 ?_
    refine xj_callN C [] [.ref a2] 0 [43] (List.range 43) (wc := [(a2, .inr (9, [.null, .null, .null, .null, .null, .null, .int (xi 0), .null, .null, .null, .null, .null, .null, .int (xi 0), .int (xi 0), .null, .null, .null, .null, .null, .null, .null, .null, .null, .null, .int (xi 0), .null, .null]))]) (wr := wX ad k (xSX SF)) rfl (xw_l (wX ad k (xSX SF)) _ rfl) (by decide) (by decide) (by decide) (fun h => by cases h) (c_X9_init (sa := t_row) (sb := t_col) hSY) gL_law_X9_init rfl ⟨rfl, rfl⟩ (List.mem_of_getElem? (i := 5) rfl) (List.mem_of_getElem? (i := 152) rfl) (List.mem_of_getElem? (i := 153) rfl) rfl hv_X9_init ⟨Nat.le_of_ble_eq_true rfl, Nat.le_of_ble_eq_true rfl⟩ rfl (Nat.le_of_ble_eq_true rfl) ⟨Nat.le_of_ble_eq_true rfl, Nat.le_of_ble_eq_true rfl⟩ dL_law_12 ?_
    rintro w2 ⟨ad2, rfl, rfl⟩ C
    show xJ l D k (68, 5190, _) X 8 15 [(1, .ref (ad 34)), (0, .ref b)] [.ref (ad2 24)] (wX ad k (xSX SF) ++ wY ad2 k SY)
    refine xj_astore_n C (L1 := [(2, .ref (ad2 24)), (1, .ref (ad 34)), (0, .ref b)]) dL_law_15 rfl (by decide) rfl ?_
    refine xj_iconst C dL_law_16 ?_
    refine xj_istore_n C (L1 := [(3, .int (xi 0)), (2, .ref (ad2 24)), (1, .ref (ad 34)), (0, .ref b)]) dL_law_17 rfl (by decide) rfl ?_
    refine xj_loc C [3, 2, 1, 0] (L1 := [(0, .ref b), (1, .ref (ad 34)), (2, .ref (ad2 24)), (3, .int (xi 0))]) rfl ?_
    exact law_loop h_cell h_connect h_output h_fix h_build h_tileOf h_cost h_bits h_load h_checkSum h_pin h_outputOf h_channels h_longest h_slack h_reset h_clock h_run C hX hL (hend ad ad2) (L + 1) 0 (by omega) (by omega) (by omega) _ _ hRel
  subst eX
  exact main s.heap [] ls hP hD va_S.rf hl
