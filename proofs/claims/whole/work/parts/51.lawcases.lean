/-! the law: what the class and the model owe each other, the loop over it (by program: wip/whole/genl.py) -/
def E_cell (Rel : xS → xS → Prop) : Prop := ∀ (S T : xS) (p1 : Int) (p2 : Int) (p3 : Int), xr p1 → (p2 = 0 ∨ p2 = 1) → (p3 = 0 ∨ p3 = 1) → Rel S T → ∃ (r : Int) (S1 : xS) (T1 : xS), m_X8_cell p1 p2 p3 S = some (r, S1) ∧ m_X9_cell p1 p2 p3 T = some (r, T1) ∧ Rel S1 T1
def E_connect (Rel : xS → xS → Prop) : Prop := ∀ (S T : xS) (p1 : Int) (p2 : Int) (p3 : Int), xr p1 → xr p2 → xr p3 → Rel S T → ∃ (r : Int) (S1 : xS) (T1 : xS), m_X8_connect p1 p2 p3 S = some (r, S1) ∧ m_X9_connect p1 p2 p3 T = some (r, T1) ∧ Rel S1 T1
def E_output (Rel : xS → xS → Prop) : Prop := ∀ (S T : xS) (p1 : Int) (p2 : Int), xr p1 → xr p2 → Rel S T → ∃ (r : Int) (S1 : xS) (T1 : xS), m_X8_output p1 p2 S = some (r, S1) ∧ m_X9_output p1 p2 T = some (r, T1) ∧ Rel S1 T1
def E_fix (Rel : xS → xS → Prop) : Prop := ∀ (S T : xS) (p1 : Int) (p2 : Int), xr p1 → xr p2 → Rel S T → ∃ (r : Int) (S1 : xS) (T1 : xS), m_X8_fix p1 p2 S = some (r, S1) ∧ m_X9_fix p1 p2 T = some (r, T1) ∧ Rel S1 T1
def E_build (Rel : xS → xS → Prop) : Prop := ∀ (S T : xS), Rel S T → ∃ (r : Int) (S1 : xS) (T1 : xS), m_X8_build S = some (r, S1) ∧ m_X9_build T = some (r, T1) ∧ Rel S1 T1
def E_tileOf (Rel : xS → xS → Prop) : Prop := ∀ (S T : xS) (p1 : Int), xr p1 → Rel S T → ∃ (r : Int), m_X8_tileOf p1 S = some r ∧ m_X9_tileOf p1 T = some r ∧ Rel S T
def E_cost (Rel : xS → xS → Prop) : Prop := ∀ (S T : xS), Rel S T → ∃ (r : Int), m_X8_cost S = some r ∧ m_X9_cost T = some r ∧ Rel S T
def E_bits (Rel : xS → xS → Prop) : Prop := ∀ (S T : xS) (p1 : Int), xr p1 → Rel S T → ∃ (r : Int64), m_X8_bits p1 S = some r ∧ m_X9_bits p1 T = some r ∧ Rel S T
def E_load (Rel : xS → xS → Prop) : Prop := ∀ (S T : xS) (p1 : Int) (p2 : Int64), xr p1 → Rel S T → ∃ (r : Int) (S1 : xS) (T1 : xS), m_X8_load p1 p2 S = some (r, S1) ∧ m_X9_load p1 p2 T = some (r, T1) ∧ Rel S1 T1
def E_checkSum (Rel : xS → xS → Prop) : Prop := ∀ (S T : xS), Rel S T → ∃ (r : Int), m_X8_checkSum S = some r ∧ m_X9_checkSum T = some r ∧ Rel S T
def E_pin (Rel : xS → xS → Prop) : Prop := ∀ (S T : xS) (p1 : Int) (p2 : Int), xr p1 → xr p2 → Rel S T → ∃ (r : Int) (T1 : xS), m_X8_pin p1 p2 S = some r ∧ m_X9_pin p1 p2 T = some (r, T1) ∧ Rel S T1
def E_outputOf (Rel : xS → xS → Prop) : Prop := ∀ (S T : xS) (p1 : Int), xr p1 → Rel S T → ∃ (r : Int) (T1 : xS), m_X8_outputOf p1 S = some r ∧ m_X9_outputOf p1 T = some (r, T1) ∧ Rel S T1
def E_channels (Rel : xS → xS → Prop) : Prop := ∀ (S T : xS) (p1 : Int) (p2 : Int), xr p1 → xr p2 → Rel S T → ∃ (r : Int) (T1 : xS), m_X8_channels p1 p2 S = some r ∧ m_X9_channels p1 p2 T = some (r, T1) ∧ Rel S T1
def E_longest (Rel : xS → xS → Prop) : Prop := ∀ (S T : xS), Rel S T → ∃ (r : UInt64) (S1 : xS) (T1 : xS), m_X8_longest S = some (r, S1) ∧ m_X9_longest T = some (r, T1) ∧ Rel S1 T1 ∧ xb_dcmp .l r r = 0
def E_slack (Rel : xS → xS → Prop) : Prop := ∀ (S T : xS) (y : Int32), Rel S T → vf_n64 (FP.dmul (FP.i2d y) (4593671619917905920 : UInt64)) ∧ ∃ (r : UInt64) (S1 : xS) (T1 : xS), m_X8_slack (FP.dmul (FP.i2d y) (4593671619917905920 : UInt64)) S = some (r, S1) ∧ m_X9_slack (FP.dmul (FP.i2d y) (4593671619917905920 : UInt64)) T = some (r, T1) ∧ Rel S1 T1 ∧ xb_dcmp .l r r = 0
def E_reset (Rel : xS → xS → Prop) : Prop := ∀ (S T : xS), Rel S T → ∃ (S1 : xS) (T1 : xS), m_X8_reset S = some S1 ∧ m_X9_reset T = some T1 ∧ Rel S1 T1
def E_clock (Rel : xS → xS → Prop) : Prop := ∀ (S T : xS) (p1 : Int), xr p1 → Rel S T → ∃ (r : Int) (S1 : xS) (T1 : xS), m_X8_clock p1 S = some (r, S1) ∧ m_X9_clock p1 T = some (r, T1) ∧ Rel S1 T1
def E_run (Rel : xS → xS → Prop) : Prop := ∀ (S T : xS) (p1 : Int), xr p1 → Rel S T → ∃ (r : Int) (S1 : xS) (T1 : xS), m_X8_run p1 S = some (r, S1) ∧ m_X9_run p1 T = some (r, T1) ∧ Rel S1 T1
set_option maxRecDepth 100000 in
set_option maxHeartbeats 8000000 in
theorem law_cell {Rel : xS → xS → Prop} {l : Launch} {D : va_G} {k : Nat → ClassId} {o : xO} {X : xX} (C : xC D k o X cL_law 8 RL wsL_law (some .boolean) room_1) {b N : Nat} {sx : Int → Int} (hX : xL b N sx X) {ad ad2 : Nat → Nat} {i : Int} (hi : 0 ≤ i ∧ i + 4 ≤ N) (hN : N ≤ 2048) (hstep : ∀ (S T : xS), Rel S T → xJ l D k o X 8 701 [(0, .ref b), (1, .ref (ad 34)), (2, .ref (ad2 24)), (3, .int (xi i))] [] (wX ad k S ++ wY ad2 k T)) (h_cell : E_cell Rel) (S T : xS) (hR : Rel S T) : xJ l D k o X 8 120 [(0, .ref b), (1, .ref (ad 34)), (2, .ref (ad2 24)), (3, .int (xi i))] [] (wX ad k S ++ wY ad2 k T) := by
  obtain ⟨r, S1, T1, hx, hm, hR1⟩ := h_cell S T (sx (i + 1)) (xzz (sx (i + 2))) (xzz (sx (i + 3))) (hX.r _) (xzz_01 _) (xzz_01 _) hR
  refine xj_aload_n C 1 dL_law_120 rfl rfl ?_
  refine xj_aload_n C 0 dL_law_121 rfl rfl ?_
  refine xj_iload_n C 3 dL_law_122 rfl rfl ?_
  refine xj_iconst C dL_law_123 ?_
  refine xj_iadd C dL_law_124 ?_
  refine xj_sldL C hX (i := (i + 1)) ⟨by omega, by omega⟩ hN dL_law_125 ?_
  refine xj_aload_n C 0 dL_law_126 rfl rfl ?_
  refine xj_iload_n C 3 dL_law_127 rfl rfl ?_
  refine xj_iconst C dL_law_128 ?_
  refine xj_iadd C dL_law_129 ?_
  refine xj_sldL C hX (i := (i + 2)) ⟨by omega, by omega⟩ hN dL_law_130 ?_
  have K131 : xJ l D k o X 8 139 [(0, .ref b), (1, .ref (ad 34)), (2, .ref (ad2 24)), (3, .int (xi i))] [.int (xi (xzz (sx (i + 2)))), .int (xi (sx (i + 1))), .ref (ad 34)] (wX ad k S ++ wY ad2 k T) := by
    refine xj_aload_n C 0 dL_law_139 rfl rfl ?_
    refine xj_iload_n C 3 dL_law_140 rfl rfl ?_
    refine xj_iconst C dL_law_141 ?_
    refine xj_iadd C dL_law_142 ?_
    refine xj_sldL C hX (i := (i + 3)) ⟨by omega, by omega⟩ hN dL_law_143 ?_
    have K144 : xJ l D k o X 8 152 [(0, .ref b), (1, .ref (ad 34)), (2, .ref (ad2 24)), (3, .int (xi i))] [.int (xi (xzz (sx (i + 3)))), .int (xi (xzz (sx (i + 2)))), .int (xi (sx (i + 1))), .ref (ad 34)] (wX ad k S ++ wY ad2 k T) := by
      refine xj_callL C [.int (xi (sx (i + 1))), .int (xi (xzz (sx (i + 2)))), .int (xi (xzz (sx (i + 3))))] [] 3 (A1 := wX ad k S) (B1 := wY ad2 k T) 43 25 rfl rfl (by decide) (by decide) (by decide) (c_X8_cell hx) gL_law_X8_cell rfl ⟨rfl, rfl⟩ hv_X8_cell ⟨Nat.le_of_ble_eq_true rfl, Nat.le_of_ble_eq_true rfl⟩ 34 (eX_34 _ k _) rfl rfl (Nat.le_of_ble_eq_true rfl) dL_law_152 ?_
      show xJ l D k _ X 8 155 [(0, .ref b), (1, .ref (ad 34)), (2, .ref (ad2 24)), (3, .int (xi i))] [.int (xi r)] (wY ad2 k T ++ wX ad k S1)
      refine xj_aload_n C 2 dL_law_155 rfl rfl ?_
      refine xj_aload_n C 0 dL_law_156 rfl rfl ?_
      refine xj_iload_n C 3 dL_law_157 rfl rfl ?_
      refine xj_iconst C dL_law_158 ?_
      refine xj_iadd C dL_law_159 ?_
      refine xj_sldL C hX (i := (i + 1)) ⟨by omega, by omega⟩ hN dL_law_160 ?_
      refine xj_aload_n C 0 dL_law_161 rfl rfl ?_
      refine xj_iload_n C 3 dL_law_162 rfl rfl ?_
      refine xj_iconst C dL_law_163 ?_
      refine xj_iadd C dL_law_164 ?_
      refine xj_sldL C hX (i := (i + 2)) ⟨by omega, by omega⟩ hN dL_law_165 ?_
      have K166 : xJ l D k o X 8 174 [(0, .ref b), (1, .ref (ad 34)), (2, .ref (ad2 24)), (3, .int (xi i))] [.int (xi (xzz (sx (i + 2)))), .int (xi (sx (i + 1))), .ref (ad2 24), .int (xi r)] (wY ad2 k T ++ wX ad k S1) := by
        refine xj_aload_n C 0 dL_law_174 rfl rfl ?_
        refine xj_iload_n C 3 dL_law_175 rfl rfl ?_
        refine xj_iconst C dL_law_176 ?_
        refine xj_iadd C dL_law_177 ?_
        refine xj_sldL C hX (i := (i + 3)) ⟨by omega, by omega⟩ hN dL_law_178 ?_
        have K179 : xJ l D k o X 8 187 [(0, .ref b), (1, .ref (ad 34)), (2, .ref (ad2 24)), (3, .int (xi i))] [.int (xi (xzz (sx (i + 3)))), .int (xi (xzz (sx (i + 2)))), .int (xi (sx (i + 1))), .ref (ad2 24), .int (xi r)] (wY ad2 k T ++ wX ad k S1) := by
          refine xj_callL C [.int (xi (sx (i + 1))), .int (xi (xzz (sx (i + 2)))), .int (xi (xzz (sx (i + 3))))] [.int (xi r)] 3 (A1 := wY ad2 k T) (B1 := wX ad k S1) 25 43 rfl rfl (by decide) (by decide) (by decide) (c_X9_cell hm) gL_law_X9_cell rfl ⟨rfl, rfl⟩ hv_X9_cell ⟨Nat.le_of_ble_eq_true rfl, Nat.le_of_ble_eq_true rfl⟩ 24 (eY_24 _ k _) rfl rfl (Nat.le_of_ble_eq_true rfl) dL_law_187 ?_
          show xJ l D k _ X 8 190 [(0, .ref b), (1, .ref (ad 34)), (2, .ref (ad2 24)), (3, .int (xi i))] [.int (xi r), .int (xi r)] (wX ad k S1 ++ wY ad2 k T1)
          refine xj_icmp_same C (tgt := 701) dL_law_190 (by decide) ?_
          exact hstep S1 T1 hR1
        refine xj_if_eq C (tgt := 186) dL_law_179 (by decide) (hX.r _) (fun c179 => ?_) (fun c179 => ?_)
        · refine xj_iconst C dL_law_186 ?_
          rw [xzz_0 c179] at K179
          exact K179
        · refine xj_iconst C dL_law_182 ?_
          refine xj_goto C (tgt := 187) dL_law_183 (by decide) ?_
          rw [xzz_1 c179] at K179
          exact K179
      refine xj_if_eq C (tgt := 173) dL_law_166 (by decide) (hX.r _) (fun c166 => ?_) (fun c166 => ?_)
      · refine xj_iconst C dL_law_173 ?_
        rw [xzz_0 c166] at K166
        exact K166
      · refine xj_iconst C dL_law_169 ?_
        refine xj_goto C (tgt := 174) dL_law_170 (by decide) ?_
        rw [xzz_1 c166] at K166
        exact K166
    refine xj_if_eq C (tgt := 151) dL_law_144 (by decide) (hX.r _) (fun c144 => ?_) (fun c144 => ?_)
    · refine xj_iconst C dL_law_151 ?_
      rw [xzz_0 c144] at K144
      exact K144
    · refine xj_iconst C dL_law_147 ?_
      refine xj_goto C (tgt := 152) dL_law_148 (by decide) ?_
      rw [xzz_1 c144] at K144
      exact K144
  refine xj_if_eq C (tgt := 138) dL_law_131 (by decide) (hX.r _) (fun c131 => ?_) (fun c131 => ?_)
  · refine xj_iconst C dL_law_138 ?_
    rw [xzz_0 c131] at K131
    exact K131
  · refine xj_iconst C dL_law_134 ?_
    refine xj_goto C (tgt := 139) dL_law_135 (by decide) ?_
    rw [xzz_1 c131] at K131
    exact K131
set_option maxRecDepth 100000 in
set_option maxHeartbeats 8000000 in
theorem law_connect {Rel : xS → xS → Prop} {l : Launch} {D : va_G} {k : Nat → ClassId} {o : xO} {X : xX} (C : xC D k o X cL_law 8 RL wsL_law (some .boolean) room_1) {b N : Nat} {sx : Int → Int} (hX : xL b N sx X) {ad ad2 : Nat → Nat} {i : Int} (hi : 0 ≤ i ∧ i + 4 ≤ N) (hN : N ≤ 2048) (hstep : ∀ (S T : xS), Rel S T → xJ l D k o X 8 701 [(0, .ref b), (1, .ref (ad 34)), (2, .ref (ad2 24)), (3, .int (xi i))] [] (wX ad k S ++ wY ad2 k T)) (h_connect : E_connect Rel) (S T : xS) (hR : Rel S T) : xJ l D k o X 8 195 [(0, .ref b), (1, .ref (ad 34)), (2, .ref (ad2 24)), (3, .int (xi i))] [] (wX ad k S ++ wY ad2 k T) := by
  obtain ⟨r, S1, T1, hx, hm, hR1⟩ := h_connect S T (sx (i + 1)) (sx (i + 2)) (sx (i + 3)) (hX.r _) (hX.r _) (hX.r _) hR
  refine xj_aload_n C 1 dL_law_195 rfl rfl ?_
  refine xj_aload_n C 0 dL_law_196 rfl rfl ?_
  refine xj_iload_n C 3 dL_law_197 rfl rfl ?_
  refine xj_iconst C dL_law_198 ?_
  refine xj_iadd C dL_law_199 ?_
  refine xj_sldL C hX (i := (i + 1)) ⟨by omega, by omega⟩ hN dL_law_200 ?_
  refine xj_aload_n C 0 dL_law_201 rfl rfl ?_
  refine xj_iload_n C 3 dL_law_202 rfl rfl ?_
  refine xj_iconst C dL_law_203 ?_
  refine xj_iadd C dL_law_204 ?_
  refine xj_sldL C hX (i := (i + 2)) ⟨by omega, by omega⟩ hN dL_law_205 ?_
  refine xj_aload_n C 0 dL_law_206 rfl rfl ?_
  refine xj_iload_n C 3 dL_law_207 rfl rfl ?_
  refine xj_iconst C dL_law_208 ?_
  refine xj_iadd C dL_law_209 ?_
  refine xj_sldL C hX (i := (i + 3)) ⟨by omega, by omega⟩ hN dL_law_210 ?_
  refine xj_callL C [.int (xi (sx (i + 1))), .int (xi (sx (i + 2))), .int (xi (sx (i + 3)))] [] 3 (A1 := wX ad k S) (B1 := wY ad2 k T) 43 25 rfl rfl (by decide) (by decide) (by decide) (c_X8_connect hx) gL_law_X8_connect rfl ⟨rfl, rfl⟩ hv_X8_connect ⟨Nat.le_of_ble_eq_true rfl, Nat.le_of_ble_eq_true rfl⟩ 34 (eX_34 _ k _) rfl rfl (Nat.le_of_ble_eq_true rfl) dL_law_211 ?_
  show xJ l D k _ X 8 214 [(0, .ref b), (1, .ref (ad 34)), (2, .ref (ad2 24)), (3, .int (xi i))] [.int (xi r)] (wY ad2 k T ++ wX ad k S1)
  refine xj_aload_n C 2 dL_law_214 rfl rfl ?_
  refine xj_aload_n C 0 dL_law_215 rfl rfl ?_
  refine xj_iload_n C 3 dL_law_216 rfl rfl ?_
  refine xj_iconst C dL_law_217 ?_
  refine xj_iadd C dL_law_218 ?_
  refine xj_sldL C hX (i := (i + 1)) ⟨by omega, by omega⟩ hN dL_law_219 ?_
  refine xj_aload_n C 0 dL_law_220 rfl rfl ?_
  refine xj_iload_n C 3 dL_law_221 rfl rfl ?_
  refine xj_iconst C dL_law_222 ?_
  refine xj_iadd C dL_law_223 ?_
  refine xj_sldL C hX (i := (i + 2)) ⟨by omega, by omega⟩ hN dL_law_224 ?_
  refine xj_aload_n C 0 dL_law_225 rfl rfl ?_
  refine xj_iload_n C 3 dL_law_226 rfl rfl ?_
  refine xj_iconst C dL_law_227 ?_
  refine xj_iadd C dL_law_228 ?_
  refine xj_sldL C hX (i := (i + 3)) ⟨by omega, by omega⟩ hN dL_law_229 ?_
  refine xj_callL C [.int (xi (sx (i + 1))), .int (xi (sx (i + 2))), .int (xi (sx (i + 3)))] [.int (xi r)] 3 (A1 := wY ad2 k T) (B1 := wX ad k S1) 25 43 rfl rfl (by decide) (by decide) (by decide) (c_X9_connect hm) gL_law_X9_connect rfl ⟨rfl, rfl⟩ hv_X9_connect ⟨Nat.le_of_ble_eq_true rfl, Nat.le_of_ble_eq_true rfl⟩ 24 (eY_24 _ k _) rfl rfl (Nat.le_of_ble_eq_true rfl) dL_law_230 ?_
  show xJ l D k _ X 8 233 [(0, .ref b), (1, .ref (ad 34)), (2, .ref (ad2 24)), (3, .int (xi i))] [.int (xi r), .int (xi r)] (wX ad k S1 ++ wY ad2 k T1)
  refine xj_icmp_same C (tgt := 701) dL_law_233 (by decide) ?_
  exact hstep S1 T1 hR1
set_option maxRecDepth 100000 in
set_option maxHeartbeats 8000000 in
theorem law_output {Rel : xS → xS → Prop} {l : Launch} {D : va_G} {k : Nat → ClassId} {o : xO} {X : xX} (C : xC D k o X cL_law 8 RL wsL_law (some .boolean) room_1) {b N : Nat} {sx : Int → Int} (hX : xL b N sx X) {ad ad2 : Nat → Nat} {i : Int} (hi : 0 ≤ i ∧ i + 4 ≤ N) (hN : N ≤ 2048) (hstep : ∀ (S T : xS), Rel S T → xJ l D k o X 8 701 [(0, .ref b), (1, .ref (ad 34)), (2, .ref (ad2 24)), (3, .int (xi i))] [] (wX ad k S ++ wY ad2 k T)) (h_output : E_output Rel) (S T : xS) (hR : Rel S T) : xJ l D k o X 8 238 [(0, .ref b), (1, .ref (ad 34)), (2, .ref (ad2 24)), (3, .int (xi i))] [] (wX ad k S ++ wY ad2 k T) := by
  obtain ⟨r, S1, T1, hx, hm, hR1⟩ := h_output S T (sx (i + 1)) (sx (i + 2)) (hX.r _) (hX.r _) hR
  refine xj_aload_n C 1 dL_law_238 rfl rfl ?_
  refine xj_aload_n C 0 dL_law_239 rfl rfl ?_
  refine xj_iload_n C 3 dL_law_240 rfl rfl ?_
  refine xj_iconst C dL_law_241 ?_
  refine xj_iadd C dL_law_242 ?_
  refine xj_sldL C hX (i := (i + 1)) ⟨by omega, by omega⟩ hN dL_law_243 ?_
  refine xj_aload_n C 0 dL_law_244 rfl rfl ?_
  refine xj_iload_n C 3 dL_law_245 rfl rfl ?_
  refine xj_iconst C dL_law_246 ?_
  refine xj_iadd C dL_law_247 ?_
  refine xj_sldL C hX (i := (i + 2)) ⟨by omega, by omega⟩ hN dL_law_248 ?_
  refine xj_callL C [.int (xi (sx (i + 1))), .int (xi (sx (i + 2)))] [] 2 (A1 := wX ad k S) (B1 := wY ad2 k T) 43 25 rfl rfl (by decide) (by decide) (by decide) (c_X8_output hx) gL_law_X8_output rfl ⟨rfl, rfl⟩ hv_X8_output ⟨Nat.le_of_ble_eq_true rfl, Nat.le_of_ble_eq_true rfl⟩ 34 (eX_34 _ k _) rfl rfl (Nat.le_of_ble_eq_true rfl) dL_law_249 ?_
  show xJ l D k _ X 8 252 [(0, .ref b), (1, .ref (ad 34)), (2, .ref (ad2 24)), (3, .int (xi i))] [.int (xi r)] (wY ad2 k T ++ wX ad k S1)
  refine xj_aload_n C 2 dL_law_252 rfl rfl ?_
  refine xj_aload_n C 0 dL_law_253 rfl rfl ?_
  refine xj_iload_n C 3 dL_law_254 rfl rfl ?_
  refine xj_iconst C dL_law_255 ?_
  refine xj_iadd C dL_law_256 ?_
  refine xj_sldL C hX (i := (i + 1)) ⟨by omega, by omega⟩ hN dL_law_257 ?_
  refine xj_aload_n C 0 dL_law_258 rfl rfl ?_
  refine xj_iload_n C 3 dL_law_259 rfl rfl ?_
  refine xj_iconst C dL_law_260 ?_
  refine xj_iadd C dL_law_261 ?_
  refine xj_sldL C hX (i := (i + 2)) ⟨by omega, by omega⟩ hN dL_law_262 ?_
  refine xj_callL C [.int (xi (sx (i + 1))), .int (xi (sx (i + 2)))] [.int (xi r)] 2 (A1 := wY ad2 k T) (B1 := wX ad k S1) 25 43 rfl rfl (by decide) (by decide) (by decide) (c_X9_output hm) gL_law_X9_output rfl ⟨rfl, rfl⟩ hv_X9_output ⟨Nat.le_of_ble_eq_true rfl, Nat.le_of_ble_eq_true rfl⟩ 24 (eY_24 _ k _) rfl rfl (Nat.le_of_ble_eq_true rfl) dL_law_263 ?_
  show xJ l D k _ X 8 266 [(0, .ref b), (1, .ref (ad 34)), (2, .ref (ad2 24)), (3, .int (xi i))] [.int (xi r), .int (xi r)] (wX ad k S1 ++ wY ad2 k T1)
  refine xj_icmp_same C (tgt := 701) dL_law_266 (by decide) ?_
  exact hstep S1 T1 hR1
set_option maxRecDepth 100000 in
set_option maxHeartbeats 8000000 in
theorem law_fix {Rel : xS → xS → Prop} {l : Launch} {D : va_G} {k : Nat → ClassId} {o : xO} {X : xX} (C : xC D k o X cL_law 8 RL wsL_law (some .boolean) room_1) {b N : Nat} {sx : Int → Int} (hX : xL b N sx X) {ad ad2 : Nat → Nat} {i : Int} (hi : 0 ≤ i ∧ i + 4 ≤ N) (hN : N ≤ 2048) (hstep : ∀ (S T : xS), Rel S T → xJ l D k o X 8 701 [(0, .ref b), (1, .ref (ad 34)), (2, .ref (ad2 24)), (3, .int (xi i))] [] (wX ad k S ++ wY ad2 k T)) (h_fix : E_fix Rel) (S T : xS) (hR : Rel S T) : xJ l D k o X 8 271 [(0, .ref b), (1, .ref (ad 34)), (2, .ref (ad2 24)), (3, .int (xi i))] [] (wX ad k S ++ wY ad2 k T) := by
  obtain ⟨r, S1, T1, hx, hm, hR1⟩ := h_fix S T (sx (i + 1)) (sx (i + 2)) (hX.r _) (hX.r _) hR
  refine xj_aload_n C 1 dL_law_271 rfl rfl ?_
  refine xj_aload_n C 0 dL_law_272 rfl rfl ?_
  refine xj_iload_n C 3 dL_law_273 rfl rfl ?_
  refine xj_iconst C dL_law_274 ?_
  refine xj_iadd C dL_law_275 ?_
  refine xj_sldL C hX (i := (i + 1)) ⟨by omega, by omega⟩ hN dL_law_276 ?_
  refine xj_aload_n C 0 dL_law_277 rfl rfl ?_
  refine xj_iload_n C 3 dL_law_278 rfl rfl ?_
  refine xj_iconst C dL_law_279 ?_
  refine xj_iadd C dL_law_280 ?_
  refine xj_sldL C hX (i := (i + 2)) ⟨by omega, by omega⟩ hN dL_law_281 ?_
  refine xj_callL C [.int (xi (sx (i + 1))), .int (xi (sx (i + 2)))] [] 2 (A1 := wX ad k S) (B1 := wY ad2 k T) 43 25 rfl rfl (by decide) (by decide) (by decide) (c_X8_fix hx) gL_law_X8_fix rfl ⟨rfl, rfl⟩ hv_X8_fix ⟨Nat.le_of_ble_eq_true rfl, Nat.le_of_ble_eq_true rfl⟩ 34 (eX_34 _ k _) rfl rfl (Nat.le_of_ble_eq_true rfl) dL_law_282 ?_
  show xJ l D k _ X 8 285 [(0, .ref b), (1, .ref (ad 34)), (2, .ref (ad2 24)), (3, .int (xi i))] [.int (xi r)] (wY ad2 k T ++ wX ad k S1)
  refine xj_aload_n C 2 dL_law_285 rfl rfl ?_
  refine xj_aload_n C 0 dL_law_286 rfl rfl ?_
  refine xj_iload_n C 3 dL_law_287 rfl rfl ?_
  refine xj_iconst C dL_law_288 ?_
  refine xj_iadd C dL_law_289 ?_
  refine xj_sldL C hX (i := (i + 1)) ⟨by omega, by omega⟩ hN dL_law_290 ?_
  refine xj_aload_n C 0 dL_law_291 rfl rfl ?_
  refine xj_iload_n C 3 dL_law_292 rfl rfl ?_
  refine xj_iconst C dL_law_293 ?_
  refine xj_iadd C dL_law_294 ?_
  refine xj_sldL C hX (i := (i + 2)) ⟨by omega, by omega⟩ hN dL_law_295 ?_
  refine xj_callL C [.int (xi (sx (i + 1))), .int (xi (sx (i + 2)))] [.int (xi r)] 2 (A1 := wY ad2 k T) (B1 := wX ad k S1) 25 43 rfl rfl (by decide) (by decide) (by decide) (c_X9_fix hm) gL_law_X9_fix rfl ⟨rfl, rfl⟩ hv_X9_fix ⟨Nat.le_of_ble_eq_true rfl, Nat.le_of_ble_eq_true rfl⟩ 24 (eY_24 _ k _) rfl rfl (Nat.le_of_ble_eq_true rfl) dL_law_296 ?_
  show xJ l D k _ X 8 299 [(0, .ref b), (1, .ref (ad 34)), (2, .ref (ad2 24)), (3, .int (xi i))] [.int (xi r), .int (xi r)] (wX ad k S1 ++ wY ad2 k T1)
  refine xj_icmp_same C (tgt := 701) dL_law_299 (by decide) ?_
  exact hstep S1 T1 hR1
set_option maxRecDepth 100000 in
set_option maxHeartbeats 8000000 in
theorem law_build {Rel : xS → xS → Prop} {l : Launch} {D : va_G} {k : Nat → ClassId} {o : xO} {X : xX} (C : xC D k o X cL_law 8 RL wsL_law (some .boolean) room_1) {b N : Nat} {sx : Int → Int} (hX : xL b N sx X) {ad ad2 : Nat → Nat} {i : Int} (hi : 0 ≤ i ∧ i + 4 ≤ N) (hN : N ≤ 2048) (hstep : ∀ (S T : xS), Rel S T → xJ l D k o X 8 701 [(0, .ref b), (1, .ref (ad 34)), (2, .ref (ad2 24)), (3, .int (xi i))] [] (wX ad k S ++ wY ad2 k T)) (h_build : E_build Rel) (S T : xS) (hR : Rel S T) : xJ l D k o X 8 304 [(0, .ref b), (1, .ref (ad 34)), (2, .ref (ad2 24)), (3, .int (xi i))] [] (wX ad k S ++ wY ad2 k T) := by
  obtain ⟨r, S1, T1, hx, hm, hR1⟩ := h_build S T hR
  refine xj_aload_n C 1 dL_law_304 rfl rfl ?_
  refine xj_callL C [] [] 0 (A1 := wX ad k S) (B1 := wY ad2 k T) 43 25 rfl rfl (by decide) (by decide) (by decide) (c_X8_build hx) gL_law_X8_build rfl ⟨rfl, rfl⟩ hv_X8_build ⟨Nat.le_of_ble_eq_true rfl, Nat.le_of_ble_eq_true rfl⟩ 34 (eX_34 _ k _) rfl rfl (Nat.le_of_ble_eq_true rfl) dL_law_305 ?_
  show xJ l D k _ X 8 308 [(0, .ref b), (1, .ref (ad 34)), (2, .ref (ad2 24)), (3, .int (xi i))] [.int (xi r)] (wY ad2 k T ++ wX ad k S1)
  refine xj_aload_n C 2 dL_law_308 rfl rfl ?_
  refine xj_callL C [] [.int (xi r)] 0 (A1 := wY ad2 k T) (B1 := wX ad k S1) 25 43 rfl rfl (by decide) (by decide) (by decide) (c_X9_build hm) gL_law_X9_build rfl ⟨rfl, rfl⟩ hv_X9_build ⟨Nat.le_of_ble_eq_true rfl, Nat.le_of_ble_eq_true rfl⟩ 24 (eY_24 _ k _) rfl rfl (Nat.le_of_ble_eq_true rfl) dL_law_309 ?_
  show xJ l D k _ X 8 312 [(0, .ref b), (1, .ref (ad 34)), (2, .ref (ad2 24)), (3, .int (xi i))] [.int (xi r), .int (xi r)] (wX ad k S1 ++ wY ad2 k T1)
  refine xj_icmp_same C (tgt := 701) dL_law_312 (by decide) ?_
  exact hstep S1 T1 hR1
set_option maxRecDepth 100000 in
set_option maxHeartbeats 8000000 in
theorem law_tileOf {Rel : xS → xS → Prop} {l : Launch} {D : va_G} {k : Nat → ClassId} {o : xO} {X : xX} (C : xC D k o X cL_law 8 RL wsL_law (some .boolean) room_1) {b N : Nat} {sx : Int → Int} (hX : xL b N sx X) {ad ad2 : Nat → Nat} {i : Int} (hi : 0 ≤ i ∧ i + 4 ≤ N) (hN : N ≤ 2048) (hstep : ∀ (S T : xS), Rel S T → xJ l D k o X 8 701 [(0, .ref b), (1, .ref (ad 34)), (2, .ref (ad2 24)), (3, .int (xi i))] [] (wX ad k S ++ wY ad2 k T)) (h_tileOf : E_tileOf Rel) (S T : xS) (hR : Rel S T) : xJ l D k o X 8 317 [(0, .ref b), (1, .ref (ad 34)), (2, .ref (ad2 24)), (3, .int (xi i))] [] (wX ad k S ++ wY ad2 k T) := by
  obtain ⟨r, hx, hm, hR1⟩ := h_tileOf S T (sx (i + 1)) (hX.r _) hR
  refine xj_aload_n C 1 dL_law_317 rfl rfl ?_
  refine xj_aload_n C 0 dL_law_318 rfl rfl ?_
  refine xj_iload_n C 3 dL_law_319 rfl rfl ?_
  refine xj_iconst C dL_law_320 ?_
  refine xj_iadd C dL_law_321 ?_
  refine xj_sldL C hX (i := (i + 1)) ⟨by omega, by omega⟩ hN dL_law_322 ?_
  refine xj_callL C [.int (xi (sx (i + 1)))] [] 1 (A1 := wX ad k S) (B1 := wY ad2 k T) 43 25 rfl rfl (by decide) (by decide) (by decide) (c_X8_tileOf hx) gL_law_X8_tileOf rfl ⟨rfl, rfl⟩ hv_X8_tileOf ⟨Nat.le_of_ble_eq_true rfl, Nat.le_of_ble_eq_true rfl⟩ 34 (eX_34 _ k _) rfl rfl (Nat.le_of_ble_eq_true rfl) dL_law_323 ?_
  show xJ l D k _ X 8 326 [(0, .ref b), (1, .ref (ad 34)), (2, .ref (ad2 24)), (3, .int (xi i))] [.int (xi r)] (wY ad2 k T ++ wX ad k S)
  refine xj_aload_n C 2 dL_law_326 rfl rfl ?_
  refine xj_aload_n C 0 dL_law_327 rfl rfl ?_
  refine xj_iload_n C 3 dL_law_328 rfl rfl ?_
  refine xj_iconst C dL_law_329 ?_
  refine xj_iadd C dL_law_330 ?_
  refine xj_sldL C hX (i := (i + 1)) ⟨by omega, by omega⟩ hN dL_law_331 ?_
  refine xj_callL C [.int (xi (sx (i + 1)))] [.int (xi r)] 1 (A1 := wY ad2 k T) (B1 := wX ad k S) 25 43 rfl rfl (by decide) (by decide) (by decide) (c_X9_tileOf hm) gL_law_X9_tileOf rfl ⟨rfl, rfl⟩ hv_X9_tileOf ⟨Nat.le_of_ble_eq_true rfl, Nat.le_of_ble_eq_true rfl⟩ 24 (eY_24 _ k _) rfl rfl (Nat.le_of_ble_eq_true rfl) dL_law_332 ?_
  show xJ l D k _ X 8 335 [(0, .ref b), (1, .ref (ad 34)), (2, .ref (ad2 24)), (3, .int (xi i))] [.int (xi r), .int (xi r)] (wX ad k S ++ wY ad2 k T)
  refine xj_icmp_same C (tgt := 701) dL_law_335 (by decide) ?_
  exact hstep S T hR1
set_option maxRecDepth 100000 in
set_option maxHeartbeats 8000000 in
theorem law_cost {Rel : xS → xS → Prop} {l : Launch} {D : va_G} {k : Nat → ClassId} {o : xO} {X : xX} (C : xC D k o X cL_law 8 RL wsL_law (some .boolean) room_1) {b N : Nat} {sx : Int → Int} (hX : xL b N sx X) {ad ad2 : Nat → Nat} {i : Int} (hi : 0 ≤ i ∧ i + 4 ≤ N) (hN : N ≤ 2048) (hstep : ∀ (S T : xS), Rel S T → xJ l D k o X 8 701 [(0, .ref b), (1, .ref (ad 34)), (2, .ref (ad2 24)), (3, .int (xi i))] [] (wX ad k S ++ wY ad2 k T)) (h_cost : E_cost Rel) (S T : xS) (hR : Rel S T) : xJ l D k o X 8 340 [(0, .ref b), (1, .ref (ad 34)), (2, .ref (ad2 24)), (3, .int (xi i))] [] (wX ad k S ++ wY ad2 k T) := by
  obtain ⟨r, hx, hm, hR1⟩ := h_cost S T hR
  refine xj_aload_n C 1 dL_law_340 rfl rfl ?_
  refine xj_callL C [] [] 0 (A1 := wX ad k S) (B1 := wY ad2 k T) 43 25 rfl rfl (by decide) (by decide) (by decide) (c_X8_cost hx) gL_law_X8_cost rfl ⟨rfl, rfl⟩ hv_X8_cost ⟨Nat.le_of_ble_eq_true rfl, Nat.le_of_ble_eq_true rfl⟩ 34 (eX_34 _ k _) rfl rfl (Nat.le_of_ble_eq_true rfl) dL_law_341 ?_
  show xJ l D k _ X 8 344 [(0, .ref b), (1, .ref (ad 34)), (2, .ref (ad2 24)), (3, .int (xi i))] [.int (xi r)] (wY ad2 k T ++ wX ad k S)
  refine xj_aload_n C 2 dL_law_344 rfl rfl ?_
  refine xj_callL C [] [.int (xi r)] 0 (A1 := wY ad2 k T) (B1 := wX ad k S) 25 43 rfl rfl (by decide) (by decide) (by decide) (c_X9_cost hm) gL_law_X9_cost rfl ⟨rfl, rfl⟩ hv_X9_cost ⟨Nat.le_of_ble_eq_true rfl, Nat.le_of_ble_eq_true rfl⟩ 24 (eY_24 _ k _) rfl rfl (Nat.le_of_ble_eq_true rfl) dL_law_345 ?_
  show xJ l D k _ X 8 348 [(0, .ref b), (1, .ref (ad 34)), (2, .ref (ad2 24)), (3, .int (xi i))] [.int (xi r), .int (xi r)] (wX ad k S ++ wY ad2 k T)
  refine xj_icmp_same C (tgt := 701) dL_law_348 (by decide) ?_
  exact hstep S T hR1
set_option maxRecDepth 100000 in
set_option maxHeartbeats 8000000 in
theorem law_bits {Rel : xS → xS → Prop} {l : Launch} {D : va_G} {k : Nat → ClassId} {o : xO} {X : xX} (C : xC D k o X cL_law 8 RL wsL_law (some .boolean) room_1) {b N : Nat} {sx : Int → Int} (hX : xL b N sx X) {ad ad2 : Nat → Nat} {i : Int} (hi : 0 ≤ i ∧ i + 4 ≤ N) (hN : N ≤ 2048) (hstep : ∀ (S T : xS), Rel S T → xJ l D k o X 8 701 [(0, .ref b), (1, .ref (ad 34)), (2, .ref (ad2 24)), (3, .int (xi i))] [] (wX ad k S ++ wY ad2 k T)) (h_bits : E_bits Rel) (S T : xS) (hR : Rel S T) : xJ l D k o X 8 353 [(0, .ref b), (1, .ref (ad 34)), (2, .ref (ad2 24)), (3, .int (xi i))] [] (wX ad k S ++ wY ad2 k T) := by
  obtain ⟨r, hx, hm, hR1⟩ := h_bits S T (sx (i + 1)) (hX.r _) hR
  refine xj_aload_n C 1 dL_law_353 rfl rfl ?_
  refine xj_aload_n C 0 dL_law_354 rfl rfl ?_
  refine xj_iload_n C 3 dL_law_355 rfl rfl ?_
  refine xj_iconst C dL_law_356 ?_
  refine xj_iadd C dL_law_357 ?_
  refine xj_sldL C hX (i := (i + 1)) ⟨by omega, by omega⟩ hN dL_law_358 ?_
  refine xj_callL C [.int (xi (sx (i + 1)))] [] 1 (A1 := wX ad k S) (B1 := wY ad2 k T) 43 25 rfl rfl (by decide) (by decide) (by decide) (c_X8_bits hx) gL_law_X8_bits rfl ⟨rfl, rfl⟩ hv_X8_bits ⟨Nat.le_of_ble_eq_true rfl, Nat.le_of_ble_eq_true rfl⟩ 34 (eX_34 _ k _) rfl rfl (Nat.le_of_ble_eq_true rfl) dL_law_359 ?_
  show xJ l D k _ X 8 362 [(0, .ref b), (1, .ref (ad 34)), (2, .ref (ad2 24)), (3, .int (xi i))] [.long r] (wY ad2 k T ++ wX ad k S)
  refine xj_aload_n C 2 dL_law_362 rfl rfl ?_
  refine xj_aload_n C 0 dL_law_363 rfl rfl ?_
  refine xj_iload_n C 3 dL_law_364 rfl rfl ?_
  refine xj_iconst C dL_law_365 ?_
  refine xj_iadd C dL_law_366 ?_
  refine xj_sldL C hX (i := (i + 1)) ⟨by omega, by omega⟩ hN dL_law_367 ?_
  refine xj_callL C [.int (xi (sx (i + 1)))] [.long r] 1 (A1 := wY ad2 k T) (B1 := wX ad k S) 25 43 rfl rfl (by decide) (by decide) (by decide) (c_X9_bits hm) gL_law_X9_bits rfl ⟨rfl, rfl⟩ hv_X9_bits ⟨Nat.le_of_ble_eq_true rfl, Nat.le_of_ble_eq_true rfl⟩ 24 (eY_24 _ k _) rfl rfl (Nat.le_of_ble_eq_true rfl) dL_law_368 ?_
  show xJ l D k _ X 8 371 [(0, .ref b), (1, .ref (ad 34)), (2, .ref (ad2 24)), (3, .int (xi i))] [.long r, .long r] (wX ad k S ++ wY ad2 k T)
  refine xj_lcmp C dL_law_371 ?_
  rw [xb_lcmp_s]
  refine xj_if_eq C (tgt := 701) dL_law_372 (by decide) xr_0 (fun _ => ?_) (fun c0 => absurd rfl c0)
  exact hstep S T hR1
set_option maxRecDepth 100000 in
set_option maxHeartbeats 8000000 in
theorem law_load {Rel : xS → xS → Prop} {l : Launch} {D : va_G} {k : Nat → ClassId} {o : xO} {X : xX} (C : xC D k o X cL_law 8 RL wsL_law (some .boolean) room_1) {b N : Nat} {sx : Int → Int} (hX : xL b N sx X) {ad ad2 : Nat → Nat} {i : Int} (hi : 0 ≤ i ∧ i + 4 ≤ N) (hN : N ≤ 2048) (hstep : ∀ (S T : xS), Rel S T → xJ l D k o X 8 701 [(0, .ref b), (1, .ref (ad 34)), (2, .ref (ad2 24)), (3, .int (xi i))] [] (wX ad k S ++ wY ad2 k T)) (h_load : E_load Rel) (S T : xS) (hR : Rel S T) : xJ l D k o X 8 377 [(0, .ref b), (1, .ref (ad 34)), (2, .ref (ad2 24)), (3, .int (xi i))] [] (wX ad k S ++ wY ad2 k T) := by
  obtain ⟨r, S1, T1, hx, hm, hR1⟩ := h_load S T (sx (i + 1)) ((((xi (sx (i + 2))).toInt64) <<< ((xi 32).toInt64 &&& 63)) ||| (((xi (sx (i + 3))).toInt64) &&& (4294967295 : Int64))) (hX.r _) hR
  refine xj_aload_n C 1 dL_law_377 rfl rfl ?_
  refine xj_aload_n C 0 dL_law_378 rfl rfl ?_
  refine xj_iload_n C 3 dL_law_379 rfl rfl ?_
  refine xj_iconst C dL_law_380 ?_
  refine xj_iadd C dL_law_381 ?_
  refine xj_sldL C hX (i := (i + 1)) ⟨by omega, by omega⟩ hN dL_law_382 ?_
  refine xj_aload_n C 0 dL_law_383 rfl rfl ?_
  refine xj_iload_n C 3 dL_law_384 rfl rfl ?_
  refine xj_iconst C dL_law_385 ?_
  refine xj_iadd C dL_law_386 ?_
  refine xj_sldL C hX (i := (i + 2)) ⟨by omega, by omega⟩ hN dL_law_387 ?_
  refine xj_i2l C dL_law_388 ?_
  refine xj_bipush C (n := 32) (by decide) dL_law_389 ?_
  refine xj_lshl C dL_law_391 ?_
  refine xj_aload_n C 0 dL_law_392 rfl rfl ?_
  refine xj_iload_n C 3 dL_law_393 rfl rfl ?_
  refine xj_iconst C dL_law_394 ?_
  refine xj_iadd C dL_law_395 ?_
  refine xj_sldL C hX (i := (i + 3)) ⟨by omega, by omega⟩ hN dL_law_396 ?_
  refine xj_i2l C dL_law_397 ?_
  refine xj_ldc2 C (List.mem_of_getElem? (i := 6) rfl) dL_law_398 ?_
  refine xj_land C dL_law_401 ?_
  refine xj_lor C dL_law_402 ?_
  refine xj_callL C [.int (xi (sx (i + 1))), .long ((((xi (sx (i + 2))).toInt64) <<< ((xi 32).toInt64 &&& 63)) ||| (((xi (sx (i + 3))).toInt64) &&& (4294967295 : Int64)))] [] 2 (A1 := wX ad k S) (B1 := wY ad2 k T) 43 25 rfl rfl (by decide) (by decide) (by decide) (c_X8_load hx) gL_law_X8_load rfl ⟨rfl, rfl⟩ hv_X8_load ⟨Nat.le_of_ble_eq_true rfl, Nat.le_of_ble_eq_true rfl⟩ 34 (eX_34 _ k _) rfl rfl (Nat.le_of_ble_eq_true rfl) dL_law_403 ?_
  show xJ l D k _ X 8 406 [(0, .ref b), (1, .ref (ad 34)), (2, .ref (ad2 24)), (3, .int (xi i))] [.int (xi r)] (wY ad2 k T ++ wX ad k S1)
  refine xj_aload_n C 2 dL_law_406 rfl rfl ?_
  refine xj_aload_n C 0 dL_law_407 rfl rfl ?_
  refine xj_iload_n C 3 dL_law_408 rfl rfl ?_
  refine xj_iconst C dL_law_409 ?_
  refine xj_iadd C dL_law_410 ?_
  refine xj_sldL C hX (i := (i + 1)) ⟨by omega, by omega⟩ hN dL_law_411 ?_
  refine xj_aload_n C 0 dL_law_412 rfl rfl ?_
  refine xj_iload_n C 3 dL_law_413 rfl rfl ?_
  refine xj_iconst C dL_law_414 ?_
  refine xj_iadd C dL_law_415 ?_
  refine xj_sldL C hX (i := (i + 2)) ⟨by omega, by omega⟩ hN dL_law_416 ?_
  refine xj_i2l C dL_law_417 ?_
  refine xj_bipush C (n := 32) (by decide) dL_law_418 ?_
  refine xj_lshl C dL_law_420 ?_
  refine xj_aload_n C 0 dL_law_421 rfl rfl ?_
  refine xj_iload_n C 3 dL_law_422 rfl rfl ?_
  refine xj_iconst C dL_law_423 ?_
  refine xj_iadd C dL_law_424 ?_
  refine xj_sldL C hX (i := (i + 3)) ⟨by omega, by omega⟩ hN dL_law_425 ?_
  refine xj_i2l C dL_law_426 ?_
  refine xj_ldc2 C (List.mem_of_getElem? (i := 6) rfl) dL_law_427 ?_
  refine xj_land C dL_law_430 ?_
  refine xj_lor C dL_law_431 ?_
  refine xj_callL C [.int (xi (sx (i + 1))), .long ((((xi (sx (i + 2))).toInt64) <<< ((xi 32).toInt64 &&& 63)) ||| (((xi (sx (i + 3))).toInt64) &&& (4294967295 : Int64)))] [.int (xi r)] 2 (A1 := wY ad2 k T) (B1 := wX ad k S1) 25 43 rfl rfl (by decide) (by decide) (by decide) (c_X9_load hm) gL_law_X9_load rfl ⟨rfl, rfl⟩ hv_X9_load ⟨Nat.le_of_ble_eq_true rfl, Nat.le_of_ble_eq_true rfl⟩ 24 (eY_24 _ k _) rfl rfl (Nat.le_of_ble_eq_true rfl) dL_law_432 ?_
  show xJ l D k _ X 8 435 [(0, .ref b), (1, .ref (ad 34)), (2, .ref (ad2 24)), (3, .int (xi i))] [.int (xi r), .int (xi r)] (wX ad k S1 ++ wY ad2 k T1)
  refine xj_icmp_same C (tgt := 701) dL_law_435 (by decide) ?_
  exact hstep S1 T1 hR1
set_option maxRecDepth 100000 in
set_option maxHeartbeats 8000000 in
theorem law_checkSum {Rel : xS → xS → Prop} {l : Launch} {D : va_G} {k : Nat → ClassId} {o : xO} {X : xX} (C : xC D k o X cL_law 8 RL wsL_law (some .boolean) room_1) {b N : Nat} {sx : Int → Int} (hX : xL b N sx X) {ad ad2 : Nat → Nat} {i : Int} (hi : 0 ≤ i ∧ i + 4 ≤ N) (hN : N ≤ 2048) (hstep : ∀ (S T : xS), Rel S T → xJ l D k o X 8 701 [(0, .ref b), (1, .ref (ad 34)), (2, .ref (ad2 24)), (3, .int (xi i))] [] (wX ad k S ++ wY ad2 k T)) (h_checkSum : E_checkSum Rel) (S T : xS) (hR : Rel S T) : xJ l D k o X 8 440 [(0, .ref b), (1, .ref (ad 34)), (2, .ref (ad2 24)), (3, .int (xi i))] [] (wX ad k S ++ wY ad2 k T) := by
  obtain ⟨r, hx, hm, hR1⟩ := h_checkSum S T hR
  refine xj_aload_n C 1 dL_law_440 rfl rfl ?_
  refine xj_callL C [] [] 0 (A1 := wX ad k S) (B1 := wY ad2 k T) 43 25 rfl rfl (by decide) (by decide) (by decide) (c_X8_checkSum hx) gL_law_X8_checkSum rfl ⟨rfl, rfl⟩ hv_X8_checkSum ⟨Nat.le_of_ble_eq_true rfl, Nat.le_of_ble_eq_true rfl⟩ 34 (eX_34 _ k _) rfl rfl (Nat.le_of_ble_eq_true rfl) dL_law_441 ?_
  show xJ l D k _ X 8 444 [(0, .ref b), (1, .ref (ad 34)), (2, .ref (ad2 24)), (3, .int (xi i))] [.int (xi r)] (wY ad2 k T ++ wX ad k S)
  refine xj_aload_n C 2 dL_law_444 rfl rfl ?_
  refine xj_callL C [] [.int (xi r)] 0 (A1 := wY ad2 k T) (B1 := wX ad k S) 25 43 rfl rfl (by decide) (by decide) (by decide) (c_X9_checkSum hm) gL_law_X9_checkSum rfl ⟨rfl, rfl⟩ hv_X9_checkSum ⟨Nat.le_of_ble_eq_true rfl, Nat.le_of_ble_eq_true rfl⟩ 24 (eY_24 _ k _) rfl rfl (Nat.le_of_ble_eq_true rfl) dL_law_445 ?_
  show xJ l D k _ X 8 448 [(0, .ref b), (1, .ref (ad 34)), (2, .ref (ad2 24)), (3, .int (xi i))] [.int (xi r), .int (xi r)] (wX ad k S ++ wY ad2 k T)
  refine xj_icmp_same C (tgt := 701) dL_law_448 (by decide) ?_
  exact hstep S T hR1
set_option maxRecDepth 100000 in
set_option maxHeartbeats 8000000 in
theorem law_pin {Rel : xS → xS → Prop} {l : Launch} {D : va_G} {k : Nat → ClassId} {o : xO} {X : xX} (C : xC D k o X cL_law 8 RL wsL_law (some .boolean) room_1) {b N : Nat} {sx : Int → Int} (hX : xL b N sx X) {ad ad2 : Nat → Nat} {i : Int} (hi : 0 ≤ i ∧ i + 4 ≤ N) (hN : N ≤ 2048) (hstep : ∀ (S T : xS), Rel S T → xJ l D k o X 8 701 [(0, .ref b), (1, .ref (ad 34)), (2, .ref (ad2 24)), (3, .int (xi i))] [] (wX ad k S ++ wY ad2 k T)) (h_pin : E_pin Rel) (S T : xS) (hR : Rel S T) : xJ l D k o X 8 453 [(0, .ref b), (1, .ref (ad 34)), (2, .ref (ad2 24)), (3, .int (xi i))] [] (wX ad k S ++ wY ad2 k T) := by
  obtain ⟨r, T1, hx, hm, hR1⟩ := h_pin S T (sx (i + 1)) (sx (i + 2)) (hX.r _) (hX.r _) hR
  refine xj_aload_n C 1 dL_law_453 rfl rfl ?_
  refine xj_aload_n C 0 dL_law_454 rfl rfl ?_
  refine xj_iload_n C 3 dL_law_455 rfl rfl ?_
  refine xj_iconst C dL_law_456 ?_
  refine xj_iadd C dL_law_457 ?_
  refine xj_sldL C hX (i := (i + 1)) ⟨by omega, by omega⟩ hN dL_law_458 ?_
  refine xj_aload_n C 0 dL_law_459 rfl rfl ?_
  refine xj_iload_n C 3 dL_law_460 rfl rfl ?_
  refine xj_iconst C dL_law_461 ?_
  refine xj_iadd C dL_law_462 ?_
  refine xj_sldL C hX (i := (i + 2)) ⟨by omega, by omega⟩ hN dL_law_463 ?_
  refine xj_callL C [.int (xi (sx (i + 1))), .int (xi (sx (i + 2)))] [] 2 (A1 := wX ad k S) (B1 := wY ad2 k T) 43 25 rfl rfl (by decide) (by decide) (by decide) (c_X8_pin hx) gL_law_X8_pin rfl ⟨rfl, rfl⟩ hv_X8_pin ⟨Nat.le_of_ble_eq_true rfl, Nat.le_of_ble_eq_true rfl⟩ 34 (eX_34 _ k _) rfl rfl (Nat.le_of_ble_eq_true rfl) dL_law_464 ?_
  show xJ l D k _ X 8 467 [(0, .ref b), (1, .ref (ad 34)), (2, .ref (ad2 24)), (3, .int (xi i))] [.int (xi r)] (wY ad2 k T ++ wX ad k S)
  refine xj_aload_n C 2 dL_law_467 rfl rfl ?_
  refine xj_aload_n C 0 dL_law_468 rfl rfl ?_
  refine xj_iload_n C 3 dL_law_469 rfl rfl ?_
  refine xj_iconst C dL_law_470 ?_
  refine xj_iadd C dL_law_471 ?_
  refine xj_sldL C hX (i := (i + 1)) ⟨by omega, by omega⟩ hN dL_law_472 ?_
  refine xj_aload_n C 0 dL_law_473 rfl rfl ?_
  refine xj_iload_n C 3 dL_law_474 rfl rfl ?_
  refine xj_iconst C dL_law_475 ?_
  refine xj_iadd C dL_law_476 ?_
  refine xj_sldL C hX (i := (i + 2)) ⟨by omega, by omega⟩ hN dL_law_477 ?_
  refine xj_callL C [.int (xi (sx (i + 1))), .int (xi (sx (i + 2)))] [.int (xi r)] 2 (A1 := wY ad2 k T) (B1 := wX ad k S) 25 43 rfl rfl (by decide) (by decide) (by decide) (c_X9_pin hm) gL_law_X9_pin rfl ⟨rfl, rfl⟩ hv_X9_pin ⟨Nat.le_of_ble_eq_true rfl, Nat.le_of_ble_eq_true rfl⟩ 24 (eY_24 _ k _) rfl rfl (Nat.le_of_ble_eq_true rfl) dL_law_478 ?_
  show xJ l D k _ X 8 481 [(0, .ref b), (1, .ref (ad 34)), (2, .ref (ad2 24)), (3, .int (xi i))] [.int (xi r), .int (xi r)] (wX ad k S ++ wY ad2 k T1)
  refine xj_icmp_same C (tgt := 701) dL_law_481 (by decide) ?_
  exact hstep S T1 hR1
set_option maxRecDepth 100000 in
set_option maxHeartbeats 8000000 in
theorem law_outputOf {Rel : xS → xS → Prop} {l : Launch} {D : va_G} {k : Nat → ClassId} {o : xO} {X : xX} (C : xC D k o X cL_law 8 RL wsL_law (some .boolean) room_1) {b N : Nat} {sx : Int → Int} (hX : xL b N sx X) {ad ad2 : Nat → Nat} {i : Int} (hi : 0 ≤ i ∧ i + 4 ≤ N) (hN : N ≤ 2048) (hstep : ∀ (S T : xS), Rel S T → xJ l D k o X 8 701 [(0, .ref b), (1, .ref (ad 34)), (2, .ref (ad2 24)), (3, .int (xi i))] [] (wX ad k S ++ wY ad2 k T)) (h_outputOf : E_outputOf Rel) (S T : xS) (hR : Rel S T) : xJ l D k o X 8 486 [(0, .ref b), (1, .ref (ad 34)), (2, .ref (ad2 24)), (3, .int (xi i))] [] (wX ad k S ++ wY ad2 k T) := by
  obtain ⟨r, T1, hx, hm, hR1⟩ := h_outputOf S T (sx (i + 1)) (hX.r _) hR
  refine xj_aload_n C 1 dL_law_486 rfl rfl ?_
  refine xj_aload_n C 0 dL_law_487 rfl rfl ?_
  refine xj_iload_n C 3 dL_law_488 rfl rfl ?_
  refine xj_iconst C dL_law_489 ?_
  refine xj_iadd C dL_law_490 ?_
  refine xj_sldL C hX (i := (i + 1)) ⟨by omega, by omega⟩ hN dL_law_491 ?_
  refine xj_callL C [.int (xi (sx (i + 1)))] [] 1 (A1 := wX ad k S) (B1 := wY ad2 k T) 43 25 rfl rfl (by decide) (by decide) (by decide) (c_X8_outputOf hx) gL_law_X8_outputOf rfl ⟨rfl, rfl⟩ hv_X8_outputOf ⟨Nat.le_of_ble_eq_true rfl, Nat.le_of_ble_eq_true rfl⟩ 34 (eX_34 _ k _) rfl rfl (Nat.le_of_ble_eq_true rfl) dL_law_492 ?_
  show xJ l D k _ X 8 495 [(0, .ref b), (1, .ref (ad 34)), (2, .ref (ad2 24)), (3, .int (xi i))] [.int (xi r)] (wY ad2 k T ++ wX ad k S)
  refine xj_aload_n C 2 dL_law_495 rfl rfl ?_
  refine xj_aload_n C 0 dL_law_496 rfl rfl ?_
  refine xj_iload_n C 3 dL_law_497 rfl rfl ?_
  refine xj_iconst C dL_law_498 ?_
  refine xj_iadd C dL_law_499 ?_
  refine xj_sldL C hX (i := (i + 1)) ⟨by omega, by omega⟩ hN dL_law_500 ?_
  refine xj_callL C [.int (xi (sx (i + 1)))] [.int (xi r)] 1 (A1 := wY ad2 k T) (B1 := wX ad k S) 25 43 rfl rfl (by decide) (by decide) (by decide) (c_X9_outputOf hm) gL_law_X9_outputOf rfl ⟨rfl, rfl⟩ hv_X9_outputOf ⟨Nat.le_of_ble_eq_true rfl, Nat.le_of_ble_eq_true rfl⟩ 24 (eY_24 _ k _) rfl rfl (Nat.le_of_ble_eq_true rfl) dL_law_501 ?_
  show xJ l D k _ X 8 504 [(0, .ref b), (1, .ref (ad 34)), (2, .ref (ad2 24)), (3, .int (xi i))] [.int (xi r), .int (xi r)] (wX ad k S ++ wY ad2 k T1)
  refine xj_icmp_same C (tgt := 701) dL_law_504 (by decide) ?_
  exact hstep S T1 hR1
set_option maxRecDepth 100000 in
set_option maxHeartbeats 8000000 in
theorem law_channels {Rel : xS → xS → Prop} {l : Launch} {D : va_G} {k : Nat → ClassId} {o : xO} {X : xX} (C : xC D k o X cL_law 8 RL wsL_law (some .boolean) room_1) {b N : Nat} {sx : Int → Int} (hX : xL b N sx X) {ad ad2 : Nat → Nat} {i : Int} (hi : 0 ≤ i ∧ i + 4 ≤ N) (hN : N ≤ 2048) (hstep : ∀ (S T : xS), Rel S T → xJ l D k o X 8 701 [(0, .ref b), (1, .ref (ad 34)), (2, .ref (ad2 24)), (3, .int (xi i))] [] (wX ad k S ++ wY ad2 k T)) (h_channels : E_channels Rel) (S T : xS) (hR : Rel S T) : xJ l D k o X 8 509 [(0, .ref b), (1, .ref (ad 34)), (2, .ref (ad2 24)), (3, .int (xi i))] [] (wX ad k S ++ wY ad2 k T) := by
  obtain ⟨r, T1, hx, hm, hR1⟩ := h_channels S T (sx (i + 1)) (sx (i + 2)) (hX.r _) (hX.r _) hR
  refine xj_aload_n C 1 dL_law_509 rfl rfl ?_
  refine xj_aload_n C 0 dL_law_510 rfl rfl ?_
  refine xj_iload_n C 3 dL_law_511 rfl rfl ?_
  refine xj_iconst C dL_law_512 ?_
  refine xj_iadd C dL_law_513 ?_
  refine xj_sldL C hX (i := (i + 1)) ⟨by omega, by omega⟩ hN dL_law_514 ?_
  refine xj_aload_n C 0 dL_law_515 rfl rfl ?_
  refine xj_iload_n C 3 dL_law_516 rfl rfl ?_
  refine xj_iconst C dL_law_517 ?_
  refine xj_iadd C dL_law_518 ?_
  refine xj_sldL C hX (i := (i + 2)) ⟨by omega, by omega⟩ hN dL_law_519 ?_
  refine xj_callL C [.int (xi (sx (i + 1))), .int (xi (sx (i + 2)))] [] 2 (A1 := wX ad k S) (B1 := wY ad2 k T) 43 25 rfl rfl (by decide) (by decide) (by decide) (c_X8_channels hx) gL_law_X8_channels rfl ⟨rfl, rfl⟩ hv_X8_channels ⟨Nat.le_of_ble_eq_true rfl, Nat.le_of_ble_eq_true rfl⟩ 34 (eX_34 _ k _) rfl rfl (Nat.le_of_ble_eq_true rfl) dL_law_520 ?_
  show xJ l D k _ X 8 523 [(0, .ref b), (1, .ref (ad 34)), (2, .ref (ad2 24)), (3, .int (xi i))] [.int (xi r)] (wY ad2 k T ++ wX ad k S)
  refine xj_aload_n C 2 dL_law_523 rfl rfl ?_
  refine xj_aload_n C 0 dL_law_524 rfl rfl ?_
  refine xj_iload_n C 3 dL_law_525 rfl rfl ?_
  refine xj_iconst C dL_law_526 ?_
  refine xj_iadd C dL_law_527 ?_
  refine xj_sldL C hX (i := (i + 1)) ⟨by omega, by omega⟩ hN dL_law_528 ?_
  refine xj_aload_n C 0 dL_law_529 rfl rfl ?_
  refine xj_iload_n C 3 dL_law_530 rfl rfl ?_
  refine xj_iconst C dL_law_531 ?_
  refine xj_iadd C dL_law_532 ?_
  refine xj_sldL C hX (i := (i + 2)) ⟨by omega, by omega⟩ hN dL_law_533 ?_
  refine xj_callL C [.int (xi (sx (i + 1))), .int (xi (sx (i + 2)))] [.int (xi r)] 2 (A1 := wY ad2 k T) (B1 := wX ad k S) 25 43 rfl rfl (by decide) (by decide) (by decide) (c_X9_channels hm) gL_law_X9_channels rfl ⟨rfl, rfl⟩ hv_X9_channels ⟨Nat.le_of_ble_eq_true rfl, Nat.le_of_ble_eq_true rfl⟩ 24 (eY_24 _ k _) rfl rfl (Nat.le_of_ble_eq_true rfl) dL_law_534 ?_
  show xJ l D k _ X 8 537 [(0, .ref b), (1, .ref (ad 34)), (2, .ref (ad2 24)), (3, .int (xi i))] [.int (xi r), .int (xi r)] (wX ad k S ++ wY ad2 k T1)
  refine xj_icmp_same C (tgt := 701) dL_law_537 (by decide) ?_
  exact hstep S T1 hR1
set_option maxRecDepth 100000 in
set_option maxHeartbeats 8000000 in
theorem law_longest {Rel : xS → xS → Prop} {l : Launch} {D : va_G} {k : Nat → ClassId} {o : xO} {X : xX} (C : xC D k o X cL_law 8 RL wsL_law (some .boolean) room_1) {b N : Nat} {sx : Int → Int} (hX : xL b N sx X) {ad ad2 : Nat → Nat} {i : Int} (hi : 0 ≤ i ∧ i + 4 ≤ N) (hN : N ≤ 2048) (hstep : ∀ (S T : xS), Rel S T → xJ l D k o X 8 701 [(0, .ref b), (1, .ref (ad 34)), (2, .ref (ad2 24)), (3, .int (xi i))] [] (wX ad k S ++ wY ad2 k T)) (h_longest : E_longest Rel) (S T : xS) (hR : Rel S T) : xJ l D k o X 8 542 [(0, .ref b), (1, .ref (ad 34)), (2, .ref (ad2 24)), (3, .int (xi i))] [] (wX ad k S ++ wY ad2 k T) := by
  obtain ⟨r, S1, T1, hx, hm, hR1, hdc⟩ := h_longest S T hR
  refine xj_aload_n C 1 dL_law_542 rfl rfl ?_
  refine xj_callL C [] [] 0 (A1 := wX ad k S) (B1 := wY ad2 k T) 43 25 rfl rfl (by decide) (by decide) (by decide) (c_X8_longest hx) gL_law_X8_longest rfl ⟨rfl, rfl⟩ hv_X8_longest ⟨Nat.le_of_ble_eq_true rfl, Nat.le_of_ble_eq_true rfl⟩ 34 (eX_34 _ k _) rfl rfl (Nat.le_of_ble_eq_true rfl) dL_law_543 ?_
  show xJ l D k _ X 8 546 [(0, .ref b), (1, .ref (ad 34)), (2, .ref (ad2 24)), (3, .int (xi i))] [.double r] (wY ad2 k T ++ wX ad k S1)
  refine xj_dstore C (L1 := [(4, .double r), (0, .ref b), (1, .ref (ad 34)), (2, .ref (ad2 24)), (3, .int (xi i))]) dL_law_546 (by decide) rfl ?_
  refine xj_aload_n C 3 dL_law_548 rfl rfl ?_
  refine xj_callL C [] [] 0 (A1 := wY ad2 k T) (B1 := wX ad k S1) 25 43 rfl rfl (by decide) (by decide) (by decide) (c_X9_longest hm) gL_law_X9_longest rfl ⟨rfl, rfl⟩ hv_X9_longest ⟨Nat.le_of_ble_eq_true rfl, Nat.le_of_ble_eq_true rfl⟩ 24 (eY_24 _ k _) rfl rfl (Nat.le_of_ble_eq_true rfl) dL_law_549 ?_
  show xJ l D k _ X 8 552 [(4, .double r), (0, .ref b), (1, .ref (ad 34)), (2, .ref (ad2 24)), (3, .int (xi i))] [.double r] (wX ad k S1 ++ wY ad2 k T1)
  refine xj_dstore C (L1 := [(6, .double r), (4, .double r), (0, .ref b), (1, .ref (ad 34)), (2, .ref (ad2 24)), (3, .int (xi i))]) dL_law_552 (by decide) rfl ?_
  refine xj_dload C 1 dL_law_554 rfl ?_
  refine xj_dload C 0 dL_law_556 rfl ?_
  refine xj_dcmp C dL_law_558 ?_
  rw [hdc]
  refine xj_if_eq C (tgt := 580) dL_law_559 (by decide) xr_0 (fun _ => ?_) (fun c0 => absurd rfl c0)
  refine xj_goto C (tgt := 701) dL_law_580 (by decide) ?_
  refine xj_loc C [2, 3, 4, 5] (L1 := [(0, .ref b), (1, .ref (ad 34)), (2, .ref (ad2 24)), (3, .int (xi i))]) rfl ?_
  exact hstep S1 T1 hR1
set_option maxRecDepth 100000 in
set_option maxHeartbeats 8000000 in
theorem law_slack {Rel : xS → xS → Prop} {l : Launch} {D : va_G} {k : Nat → ClassId} {o : xO} {X : xX} (C : xC D k o X cL_law 8 RL wsL_law (some .boolean) room_1) {b N : Nat} {sx : Int → Int} (hX : xL b N sx X) {ad ad2 : Nat → Nat} {i : Int} (hi : 0 ≤ i ∧ i + 4 ≤ N) (hN : N ≤ 2048) (hstep : ∀ (S T : xS), Rel S T → xJ l D k o X 8 701 [(0, .ref b), (1, .ref (ad 34)), (2, .ref (ad2 24)), (3, .int (xi i))] [] (wX ad k S ++ wY ad2 k T)) (h_slack : E_slack Rel) (S T : xS) (hR : Rel S T) : xJ l D k o X 8 583 [(0, .ref b), (1, .ref (ad 34)), (2, .ref (ad2 24)), (3, .int (xi i))] [] (wX ad k S ++ wY ad2 k T) := by
  obtain ⟨hnan, r, S1, T1, hx, hm, hR1, hdc⟩ := h_slack S T (xi (sx (i + 1))) hR
  refine xj_aload_n C 1 dL_law_583 rfl rfl ?_
  refine xj_aload_n C 0 dL_law_584 rfl rfl ?_
  refine xj_iload_n C 3 dL_law_585 rfl rfl ?_
  refine xj_iconst C dL_law_586 ?_
  refine xj_iadd C dL_law_587 ?_
  refine xj_sldL C hX (i := (i + 1)) ⟨by omega, by omega⟩ hN dL_law_588 ?_
  refine xj_i2d C dL_law_589 ?_
  refine xj_ldc2d C (List.mem_of_getElem? (i := 7) rfl) dL_law_590 ?_
  refine xj_dmul C hnan dL_law_593 ?_
  refine xj_callL C [.double (FP.dmul (FP.i2d (xi (sx (i + 1)))) (4593671619917905920 : UInt64))] [] 1 (A1 := wX ad k S) (B1 := wY ad2 k T) 43 25 rfl rfl (by decide) (by decide) (by decide) (c_X8_slack hx) gL_law_X8_slack rfl ⟨rfl, rfl⟩ hv_X8_slack ⟨Nat.le_of_ble_eq_true rfl, Nat.le_of_ble_eq_true rfl⟩ 34 (eX_34 _ k _) rfl rfl (Nat.le_of_ble_eq_true rfl) dL_law_594 ?_
  show xJ l D k _ X 8 597 [(0, .ref b), (1, .ref (ad 34)), (2, .ref (ad2 24)), (3, .int (xi i))] [.double r] (wY ad2 k T ++ wX ad k S1)
  refine xj_dstore C (L1 := [(4, .double r), (0, .ref b), (1, .ref (ad 34)), (2, .ref (ad2 24)), (3, .int (xi i))]) dL_law_597 (by decide) rfl ?_
  refine xj_aload_n C 3 dL_law_599 rfl rfl ?_
  refine xj_aload_n C 1 dL_law_600 rfl rfl ?_
  refine xj_iload_n C 4 dL_law_601 rfl rfl ?_
  refine xj_iconst C dL_law_602 ?_
  refine xj_iadd C dL_law_603 ?_
  refine xj_sldL C hX (i := (i + 1)) ⟨by omega, by omega⟩ hN dL_law_604 ?_
  refine xj_i2d C dL_law_605 ?_
  refine xj_ldc2d C (List.mem_of_getElem? (i := 7) rfl) dL_law_606 ?_
  refine xj_dmul C hnan dL_law_609 ?_
  refine xj_callL C [.double (FP.dmul (FP.i2d (xi (sx (i + 1)))) (4593671619917905920 : UInt64))] [] 1 (A1 := wY ad2 k T) (B1 := wX ad k S1) 25 43 rfl rfl (by decide) (by decide) (by decide) (c_X9_slack hm) gL_law_X9_slack rfl ⟨rfl, rfl⟩ hv_X9_slack ⟨Nat.le_of_ble_eq_true rfl, Nat.le_of_ble_eq_true rfl⟩ 24 (eY_24 _ k _) rfl rfl (Nat.le_of_ble_eq_true rfl) dL_law_610 ?_
  show xJ l D k _ X 8 613 [(4, .double r), (0, .ref b), (1, .ref (ad 34)), (2, .ref (ad2 24)), (3, .int (xi i))] [.double r] (wX ad k S1 ++ wY ad2 k T1)
  refine xj_dstore C (L1 := [(6, .double r), (4, .double r), (0, .ref b), (1, .ref (ad 34)), (2, .ref (ad2 24)), (3, .int (xi i))]) dL_law_613 (by decide) rfl ?_
  refine xj_dload C 1 dL_law_615 rfl ?_
  refine xj_dload C 0 dL_law_617 rfl ?_
  refine xj_dcmp C dL_law_619 ?_
  rw [hdc]
  refine xj_if_eq C (tgt := 641) dL_law_620 (by decide) xr_0 (fun _ => ?_) (fun c0 => absurd rfl c0)
  refine xj_goto C (tgt := 701) dL_law_641 (by decide) ?_
  refine xj_loc C [2, 3, 4, 5] (L1 := [(0, .ref b), (1, .ref (ad 34)), (2, .ref (ad2 24)), (3, .int (xi i))]) rfl ?_
  exact hstep S1 T1 hR1
set_option maxRecDepth 100000 in
set_option maxHeartbeats 8000000 in
theorem law_reset {Rel : xS → xS → Prop} {l : Launch} {D : va_G} {k : Nat → ClassId} {o : xO} {X : xX} (C : xC D k o X cL_law 8 RL wsL_law (some .boolean) room_1) {b N : Nat} {sx : Int → Int} (hX : xL b N sx X) {ad ad2 : Nat → Nat} {i : Int} (hi : 0 ≤ i ∧ i + 4 ≤ N) (hN : N ≤ 2048) (hstep : ∀ (S T : xS), Rel S T → xJ l D k o X 8 701 [(0, .ref b), (1, .ref (ad 34)), (2, .ref (ad2 24)), (3, .int (xi i))] [] (wX ad k S ++ wY ad2 k T)) (h_reset : E_reset Rel) (S T : xS) (hR : Rel S T) : xJ l D k o X 8 644 [(0, .ref b), (1, .ref (ad 34)), (2, .ref (ad2 24)), (3, .int (xi i))] [] (wX ad k S ++ wY ad2 k T) := by
  obtain ⟨S1, T1, hx, hm, hR1⟩ := h_reset S T hR
  refine xj_aload_n C 1 dL_law_644 rfl rfl ?_
  refine xj_callL C [] [] 0 (A1 := wX ad k S) (B1 := wY ad2 k T) 43 25 rfl rfl (by decide) (by decide) (by decide) (c_X8_reset hx) gL_law_X8_reset rfl ⟨rfl, rfl⟩ hv_X8_reset ⟨Nat.le_of_ble_eq_true rfl, Nat.le_of_ble_eq_true rfl⟩ 34 (eX_34 _ k _) rfl rfl (Nat.le_of_ble_eq_true rfl) dL_law_645 ?_
  show xJ l D k _ X 8 648 [(0, .ref b), (1, .ref (ad 34)), (2, .ref (ad2 24)), (3, .int (xi i))] [] (wY ad2 k T ++ wX ad k S1)
  refine xj_aload_n C 2 dL_law_648 rfl rfl ?_
  refine xj_callL C [] [] 0 (A1 := wY ad2 k T) (B1 := wX ad k S1) 25 43 rfl rfl (by decide) (by decide) (by decide) (c_X9_reset hm) gL_law_X9_reset rfl ⟨rfl, rfl⟩ hv_X9_reset ⟨Nat.le_of_ble_eq_true rfl, Nat.le_of_ble_eq_true rfl⟩ 24 (eY_24 _ k _) rfl rfl (Nat.le_of_ble_eq_true rfl) dL_law_649 ?_
  show xJ l D k _ X 8 652 [(0, .ref b), (1, .ref (ad 34)), (2, .ref (ad2 24)), (3, .int (xi i))] [] (wX ad k S1 ++ wY ad2 k T1)
  refine xj_goto C (tgt := 701) dL_law_652 (by decide) ?_
  exact hstep S1 T1 hR1
set_option maxRecDepth 100000 in
set_option maxHeartbeats 8000000 in
theorem law_clock {Rel : xS → xS → Prop} {l : Launch} {D : va_G} {k : Nat → ClassId} {o : xO} {X : xX} (C : xC D k o X cL_law 8 RL wsL_law (some .boolean) room_1) {b N : Nat} {sx : Int → Int} (hX : xL b N sx X) {ad ad2 : Nat → Nat} {i : Int} (hi : 0 ≤ i ∧ i + 4 ≤ N) (hN : N ≤ 2048) (hstep : ∀ (S T : xS), Rel S T → xJ l D k o X 8 701 [(0, .ref b), (1, .ref (ad 34)), (2, .ref (ad2 24)), (3, .int (xi i))] [] (wX ad k S ++ wY ad2 k T)) (h_clock : E_clock Rel) (S T : xS) (hR : Rel S T) : xJ l D k o X 8 655 [(0, .ref b), (1, .ref (ad 34)), (2, .ref (ad2 24)), (3, .int (xi i))] [] (wX ad k S ++ wY ad2 k T) := by
  obtain ⟨r, S1, T1, hx, hm, hR1⟩ := h_clock S T (sx (i + 1)) (hX.r _) hR
  refine xj_aload_n C 1 dL_law_655 rfl rfl ?_
  refine xj_aload_n C 0 dL_law_656 rfl rfl ?_
  refine xj_iload_n C 3 dL_law_657 rfl rfl ?_
  refine xj_iconst C dL_law_658 ?_
  refine xj_iadd C dL_law_659 ?_
  refine xj_sldL C hX (i := (i + 1)) ⟨by omega, by omega⟩ hN dL_law_660 ?_
  refine xj_callL C [.int (xi (sx (i + 1)))] [] 1 (A1 := wX ad k S) (B1 := wY ad2 k T) 43 25 rfl rfl (by decide) (by decide) (by decide) (c_X8_clock hx) gL_law_X8_clock rfl ⟨rfl, rfl⟩ hv_X8_clock ⟨Nat.le_of_ble_eq_true rfl, Nat.le_of_ble_eq_true rfl⟩ 34 (eX_34 _ k _) rfl rfl (Nat.le_of_ble_eq_true rfl) dL_law_661 ?_
  show xJ l D k _ X 8 664 [(0, .ref b), (1, .ref (ad 34)), (2, .ref (ad2 24)), (3, .int (xi i))] [.int (xi r)] (wY ad2 k T ++ wX ad k S1)
  refine xj_aload_n C 2 dL_law_664 rfl rfl ?_
  refine xj_aload_n C 0 dL_law_665 rfl rfl ?_
  refine xj_iload_n C 3 dL_law_666 rfl rfl ?_
  refine xj_iconst C dL_law_667 ?_
  refine xj_iadd C dL_law_668 ?_
  refine xj_sldL C hX (i := (i + 1)) ⟨by omega, by omega⟩ hN dL_law_669 ?_
  refine xj_callL C [.int (xi (sx (i + 1)))] [.int (xi r)] 1 (A1 := wY ad2 k T) (B1 := wX ad k S1) 25 43 rfl rfl (by decide) (by decide) (by decide) (c_X9_clock hm) gL_law_X9_clock rfl ⟨rfl, rfl⟩ hv_X9_clock ⟨Nat.le_of_ble_eq_true rfl, Nat.le_of_ble_eq_true rfl⟩ 24 (eY_24 _ k _) rfl rfl (Nat.le_of_ble_eq_true rfl) dL_law_670 ?_
  show xJ l D k _ X 8 673 [(0, .ref b), (1, .ref (ad 34)), (2, .ref (ad2 24)), (3, .int (xi i))] [.int (xi r), .int (xi r)] (wX ad k S1 ++ wY ad2 k T1)
  refine xj_icmp_same C (tgt := 701) dL_law_673 (by decide) ?_
  exact hstep S1 T1 hR1
set_option maxRecDepth 100000 in
set_option maxHeartbeats 8000000 in
theorem law_run {Rel : xS → xS → Prop} {l : Launch} {D : va_G} {k : Nat → ClassId} {o : xO} {X : xX} (C : xC D k o X cL_law 8 RL wsL_law (some .boolean) room_1) {b N : Nat} {sx : Int → Int} (hX : xL b N sx X) {ad ad2 : Nat → Nat} {i : Int} (hi : 0 ≤ i ∧ i + 4 ≤ N) (hN : N ≤ 2048) (hstep : ∀ (S T : xS), Rel S T → xJ l D k o X 8 701 [(0, .ref b), (1, .ref (ad 34)), (2, .ref (ad2 24)), (3, .int (xi i))] [] (wX ad k S ++ wY ad2 k T)) (h_run : E_run Rel) (S T : xS) (hR : Rel S T) : xJ l D k o X 8 678 [(0, .ref b), (1, .ref (ad 34)), (2, .ref (ad2 24)), (3, .int (xi i))] [] (wX ad k S ++ wY ad2 k T) := by
  obtain ⟨r, S1, T1, hx, hm, hR1⟩ := h_run S T (sx (i + 1)) (hX.r _) hR
  refine xj_aload_n C 1 dL_law_678 rfl rfl ?_
  refine xj_aload_n C 0 dL_law_679 rfl rfl ?_
  refine xj_iload_n C 3 dL_law_680 rfl rfl ?_
  refine xj_iconst C dL_law_681 ?_
  refine xj_iadd C dL_law_682 ?_
  refine xj_sldL C hX (i := (i + 1)) ⟨by omega, by omega⟩ hN dL_law_683 ?_
  refine xj_callL C [.int (xi (sx (i + 1)))] [] 1 (A1 := wX ad k S) (B1 := wY ad2 k T) 43 25 rfl rfl (by decide) (by decide) (by decide) (c_X8_run hx) gL_law_X8_run rfl ⟨rfl, rfl⟩ hv_X8_run ⟨Nat.le_of_ble_eq_true rfl, Nat.le_of_ble_eq_true rfl⟩ 34 (eX_34 _ k _) rfl rfl (Nat.le_of_ble_eq_true rfl) dL_law_684 ?_
  show xJ l D k _ X 8 687 [(0, .ref b), (1, .ref (ad 34)), (2, .ref (ad2 24)), (3, .int (xi i))] [.int (xi r)] (wY ad2 k T ++ wX ad k S1)
  refine xj_aload_n C 2 dL_law_687 rfl rfl ?_
  refine xj_aload_n C 0 dL_law_688 rfl rfl ?_
  refine xj_iload_n C 3 dL_law_689 rfl rfl ?_
  refine xj_iconst C dL_law_690 ?_
  refine xj_iadd C dL_law_691 ?_
  refine xj_sldL C hX (i := (i + 1)) ⟨by omega, by omega⟩ hN dL_law_692 ?_
  refine xj_callL C [.int (xi (sx (i + 1)))] [.int (xi r)] 1 (A1 := wY ad2 k T) (B1 := wX ad k S1) 25 43 rfl rfl (by decide) (by decide) (by decide) (c_X9_run hm) gL_law_X9_run rfl ⟨rfl, rfl⟩ hv_X9_run ⟨Nat.le_of_ble_eq_true rfl, Nat.le_of_ble_eq_true rfl⟩ 24 (eY_24 _ k _) rfl rfl (Nat.le_of_ble_eq_true rfl) dL_law_693 ?_
  show xJ l D k _ X 8 696 [(0, .ref b), (1, .ref (ad 34)), (2, .ref (ad2 24)), (3, .int (xi i))] [.int (xi r), .int (xi r)] (wX ad k S1 ++ wY ad2 k T1)
  refine xj_icmp_same C (tgt := 701) dL_law_696 (by decide) ?_
  exact hstep S1 T1 hR1
