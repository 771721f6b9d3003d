/-! the law: its switch, its loop (by program: wip/whole/mkloop.py) -/
theorem xj_tableIn {l : Launch} {D : va_G} {k : Nat → ClassId} {o : xO} {X : xX} {cc : ByteArray} {nL : Nat} {own : String} {Ts : List Cond} {ret : Option FieldType} {rm : Room} (C : xC D k o X cc nL own Ts ret rm) {pc : Nat} {L : List (Nat × Value)} {st : List Value} {ws : va_W} {dflt lo hi : Int} {offs : Array Int} {len : Nat} {x off : Int} {tgt : Nat} (hd : decode cc pc = .ok (.tableswitch dflt lo hi offs, len)) (hg : xr x) (h1 : ¬ x < lo) (h2 : ¬ hi < x) (h3 : offs[(x - lo).toNat]? = some off) (ht : (pc : Int) + off = (tgt : Int)) (kk : xJ l D k o X nL tgt L st ws) : xJ l D k o X nL pc L (.int (xi x) :: st) ws := by
  obtain ⟨p, e, R, s, m, args, below, meth, c, A⟩ := X
  obtain ⟨⟨hx, hb, hml, hown, hts⟩, hK, hA, hr, hlk, hR, ho⟩ := C
  intro H locs ls hP hD hS hl
  exact lv_tableIn hx hb hd (by rw [xi_toInt hg]; exact h1) (by rw [xi_toInt hg]; exact h2) (by rw [xi_toInt hg]; exact h3) ht (kk H locs ls hP hD hS hl)
theorem xj_tableOut {l : Launch} {D : va_G} {k : Nat → ClassId} {o : xO} {X : xX} {cc : ByteArray} {nL : Nat} {own : String} {Ts : List Cond} {ret : Option FieldType} {rm : Room} (C : xC D k o X cc nL own Ts ret rm) {pc : Nat} {L : List (Nat × Value)} {st : List Value} {ws : va_W} {dflt lo hi : Int} {offs : Array Int} {len : Nat} {x : Int} {tgt : Nat} (hd : decode cc pc = .ok (.tableswitch dflt lo hi offs, len)) (hg : xr x) (h1 : x < lo ∨ hi < x) (ht : (pc : Int) + dflt = (tgt : Int)) (kk : xJ l D k o X nL tgt L st ws) : xJ l D k o X nL pc L (.int (xi x) :: st) ws := by
  obtain ⟨p, e, R, s, m, args, below, meth, c, A⟩ := X
  obtain ⟨⟨hx, hb, hml, hown, hts⟩, hK, hA, hr, hlk, hR, ho⟩ := C
  intro H locs ls hP hD hS hl
  exact lv_tableOut hx hb hd (by rw [xi_toInt hg]; exact h1) ht (kk H locs ls hP hD hS hl)
set_option maxRecDepth 100000 in
set_option maxHeartbeats 8000000 in
/-- one turn of the loop: the switch -/
theorem law_switch {Rel : xS → xS → Prop} (h_cell : E_cell Rel) (h_connect : E_connect Rel) (h_output : E_output Rel) (h_fix : E_fix Rel) (h_build : E_build Rel) (h_tileOf : E_tileOf Rel) (h_cost : E_cost Rel) (h_bits : E_bits Rel) (h_load : E_load Rel) (h_checkSum : E_checkSum Rel) (h_pin : E_pin Rel) (h_outputOf : E_outputOf Rel) (h_channels : E_channels Rel) (h_longest : E_longest Rel) (h_slack : E_slack Rel) (h_reset : E_reset Rel) (h_clock : E_clock Rel) (h_run : E_run Rel) {l : Launch} {D : va_G} {k : Nat → ClassId} {o : xO} {X : xX} (C : xC D k o X cL_law 8 RL wsL_law (some .boolean) room_1) {b N : Nat} {sx : Int → Int} (hX : xL b N sx X) {ad ad2 : Nat → Nat} {i : Int} (hi : 0 ≤ i ∧ i + 4 ≤ N) (hN : N ≤ 2048) (hstep : ∀ (S T : xS), Rel S T → xJ l D k o X 8 701 [(0, .ref b), (1, .ref (ad 34)), (2, .ref (ad2 24)), (3, .int (xi i))] [] (wX ad k S ++ wY ad2 k T)) (S T : xS) (hR : Rel S T) (v : Int) (hv : xr v) : xJ l D k o X 8 32 [(0, .ref b), (1, .ref (ad 34)), (2, .ref (ad2 24)), (3, .int (xi i))] [.int (xi v)] (wX ad k S ++ wY ad2 k T) := by
  by_cases hout : v < 0 ∨ 17 < v
  · exact xj_tableOut C (tgt := 701) dL_law_32 hv hout (by decide) (hstep S T hR)
  · have h18 : v = 0 ∨ v = 1 ∨ v = 2 ∨ v = 3 ∨ v = 4 ∨ v = 5 ∨ v = 6 ∨ v = 7 ∨ v = 8 ∨ v = 9 ∨ v = 10 ∨ v = 11 ∨ v = 12 ∨ v = 13 ∨ v = 14 ∨ v = 15 ∨ v = 16 ∨ v = 17 := by omega
    rcases h18 with rfl | rfl | rfl | rfl | rfl | rfl | rfl | rfl | rfl | rfl | rfl | rfl | rfl | rfl | rfl | rfl | rfl | rfl
    · exact xj_tableIn C (tgt := 120) (off := 88) dL_law_32 hv (by decide) (by decide) rfl (by decide) (law_cell C hX hi hN hstep h_cell S T hR)
    · exact xj_tableIn C (tgt := 195) (off := 163) dL_law_32 hv (by decide) (by decide) rfl (by decide) (law_connect C hX hi hN hstep h_connect S T hR)
    · exact xj_tableIn C (tgt := 238) (off := 206) dL_law_32 hv (by decide) (by decide) rfl (by decide) (law_output C hX hi hN hstep h_output S T hR)
    · exact xj_tableIn C (tgt := 271) (off := 239) dL_law_32 hv (by decide) (by decide) rfl (by decide) (law_fix C hX hi hN hstep h_fix S T hR)
    · exact xj_tableIn C (tgt := 304) (off := 272) dL_law_32 hv (by decide) (by decide) rfl (by decide) (law_build C hX hi hN hstep h_build S T hR)
    · exact xj_tableIn C (tgt := 317) (off := 285) dL_law_32 hv (by decide) (by decide) rfl (by decide) (law_tileOf C hX hi hN hstep h_tileOf S T hR)
    · exact xj_tableIn C (tgt := 340) (off := 308) dL_law_32 hv (by decide) (by decide) rfl (by decide) (law_cost C hX hi hN hstep h_cost S T hR)
    · exact xj_tableIn C (tgt := 353) (off := 321) dL_law_32 hv (by decide) (by decide) rfl (by decide) (law_bits C hX hi hN hstep h_bits S T hR)
    · exact xj_tableIn C (tgt := 377) (off := 345) dL_law_32 hv (by decide) (by decide) rfl (by decide) (law_load C hX hi hN hstep h_load S T hR)
    · exact xj_tableIn C (tgt := 440) (off := 408) dL_law_32 hv (by decide) (by decide) rfl (by decide) (law_checkSum C hX hi hN hstep h_checkSum S T hR)
    · exact xj_tableIn C (tgt := 453) (off := 421) dL_law_32 hv (by decide) (by decide) rfl (by decide) (law_pin C hX hi hN hstep h_pin S T hR)
    · exact xj_tableIn C (tgt := 486) (off := 454) dL_law_32 hv (by decide) (by decide) rfl (by decide) (law_outputOf C hX hi hN hstep h_outputOf S T hR)
    · exact xj_tableIn C (tgt := 509) (off := 477) dL_law_32 hv (by decide) (by decide) rfl (by decide) (law_channels C hX hi hN hstep h_channels S T hR)
    · exact xj_tableIn C (tgt := 542) (off := 510) dL_law_32 hv (by decide) (by decide) rfl (by decide) (law_longest C hX hi hN hstep h_longest S T hR)
    · exact xj_tableIn C (tgt := 583) (off := 551) dL_law_32 hv (by decide) (by decide) rfl (by decide) (law_slack C hX hi hN hstep h_slack S T hR)
    · exact xj_tableIn C (tgt := 644) (off := 612) dL_law_32 hv (by decide) (by decide) rfl (by decide) (law_reset C hX hi hN hstep h_reset S T hR)
    · exact xj_tableIn C (tgt := 655) (off := 623) dL_law_32 hv (by decide) (by decide) rfl (by decide) (law_clock C hX hi hN hstep h_clock S T hR)
    · exact xj_tableIn C (tgt := 678) (off := 646) dL_law_32 hv (by decide) (by decide) rfl (by decide) (law_run C hX hi hN hstep h_run S T hR)
set_option maxRecDepth 100000 in
set_option maxHeartbeats 8000000 in
theorem law_loop {Rel : xS → xS → Prop} (h_cell : E_cell Rel) (h_connect : E_connect Rel) (h_output : E_output Rel) (h_fix : E_fix Rel) (h_build : E_build Rel) (h_tileOf : E_tileOf Rel) (h_cost : E_cost Rel) (h_bits : E_bits Rel) (h_load : E_load Rel) (h_checkSum : E_checkSum Rel) (h_pin : E_pin Rel) (h_outputOf : E_outputOf Rel) (h_channels : E_channels Rel) (h_longest : E_longest Rel) (h_slack : E_slack Rel) (h_reset : E_reset Rel) (h_clock : E_clock Rel) (h_run : E_run Rel) {l : Launch} {D : va_G} {k : Nat → ClassId} {o : xO} {X : xX} (C : xC D k o X cL_law 8 RL wsL_law (some .boolean) room_1) {b N : Nat} {sx : Int → Int} (hX : xL b N sx X) {ad ad2 : Nat → Nat} (hN : N ≤ 2048) (hend : ∀ (i : Int) (S T : xS), xJ l D k o X 8 707 [(0, .ref b), (1, .ref (ad 34)), (2, .ref (ad2 24)), (3, .int (xi i))] [] (wX ad k S ++ wY ad2 k T)) : ∀ (n : Nat) (i : Int), 0 ≤ i → i ≤ 3000 → (N : Int) - i ≤ n → ∀ (S T : xS), Rel S T → xJ l D k o X 8 18 [(0, .ref b), (1, .ref (ad 34)), (2, .ref (ad2 24)), (3, .int (xi i))] [] (wX ad k S ++ wY ad2 k T) := by
  intro n
  induction n with
  | zero =>
    intro i h0 h1 h2 S T hR
    refine xj_iload_n C 3 dL_law_18 rfl rfl ?_
    refine xj_aload_n C 0 dL_law_19 rfl rfl ?_
    refine xj_slenL C hX dL_law_20 ?_
    refine xj_iconst C dL_law_21 ?_
    refine xj_isub C dL_law_22 ?_
    exact xj_icmp_gt C (tgt := 707) dL_law_23 (by decide) ⟨⟨by omega, by omega⟩, ⟨by omega, by omega⟩⟩ (fun _ => hend i S T) (fun c => absurd (by omega) c)
  | succ n ih =>
    intro i h0 h1 h2 S T hR
    refine xj_iload_n C 3 dL_law_18 rfl rfl ?_
    refine xj_aload_n C 0 dL_law_19 rfl rfl ?_
    refine xj_slenL C hX dL_law_20 ?_
    refine xj_iconst C dL_law_21 ?_
    refine xj_isub C dL_law_22 ?_
    refine xj_icmp_gt C (tgt := 707) dL_law_23 (by decide) ⟨⟨by omega, by omega⟩, ⟨by omega, by omega⟩⟩ (fun _ => hend i S T) (fun c => ?_)
    refine xj_aload_n C 0 dL_law_26 rfl rfl ?_
    refine xj_iload_n C 3 dL_law_27 rfl rfl ?_
    refine xj_sldL C hX (i := i) ⟨by omega, by omega⟩ hN dL_law_28 ?_
    refine xj_bipush C (n := 31) (by decide) dL_law_29 ?_
    refine xj_iand C dL_law_31 ?_
    refine law_switch h_cell h_connect h_output h_fix h_build h_tileOf h_cost h_bits h_load h_checkSum h_pin h_outputOf h_channels h_longest h_slack h_reset h_clock h_run C hX ⟨h0, by omega⟩ hN (fun S1 T1 hR1 => ?_) S T hR _ (xr_iand _ _)
    refine xj_iinc C 3 (L1 := [(3, .int (xi (i + 4))), (0, .ref b), (1, .ref (ad 34)), (2, .ref (ad2 24))]) dL_law_701 rfl (by decide) rfl ?_
    refine xj_goto C (tgt := 18) dL_law_704 (by decide) ?_
    refine xj_loc C [1, 2, 3, 0] (L1 := [(0, .ref b), (1, .ref (ad 34)), (2, .ref (ad2 24)), (3, .int (xi (i + 4)))]) rfl ?_
    exact ih (i + 4) (by omega) (by omega) (by omega) S1 T1 hR1
