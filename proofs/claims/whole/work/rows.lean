section
-- ===== PART A: goes FIRST, ahead of the names: the tables' words, and 'selects' of the private methods out of them =====
/-- a private method of a class that the tables say can be made, by its rows of tables_1 -/
def lw_okq (q : MethodName × Nat) : Prop := (q.1.cls ≠ "java/lang/invoke/MethodHandle" ∧ q.1.cls ≠ "java/lang/invoke/VarHandle") ∧ Cond.instantiable q.1.cls q.2 ∈ tables_1 ∧ Cond.privateMethod q.1 ∈ tables_1 ∧ Cond.instanceMethod q.1 ∈ tables_1
theorem lw_p0 : lw_okq (⟨"TileArray$Fabric", "laySwitches", "(I)V"⟩, 4) := ⟨⟨by decide +kernel, by decide +kernel⟩, List.mem_of_getElem? (i := 23) (by decide +kernel), List.mem_of_getElem? (i := 32) (by decide +kernel), List.mem_of_getElem? (i := 33) (by decide +kernel)⟩
theorem lw_p1 : lw_okq (⟨"TileArray$Fabric", "layChannel", "(III)V"⟩, 4) := ⟨⟨by decide +kernel, by decide +kernel⟩, List.mem_of_getElem? (i := 23) (by decide +kernel), List.mem_of_getElem? (i := 49) (by decide +kernel), List.mem_of_getElem? (i := 50) (by decide +kernel)⟩
theorem lw_p2 : lw_okq (⟨"TileArray$Fabric", "laySwitch", "(III)V"⟩, 4) := ⟨⟨by decide +kernel, by decide +kernel⟩, List.mem_of_getElem? (i := 23) (by decide +kernel), List.mem_of_getElem? (i := 53) (by decide +kernel), List.mem_of_getElem? (i := 54) (by decide +kernel)⟩
theorem lw_p3 : lw_okq (⟨"TileArray$Circuit", "orderIfReady", "(I)V"⟩, 11) := ⟨⟨by decide +kernel, by decide +kernel⟩, List.mem_of_getElem? (i := 71) (by decide +kernel), List.mem_of_getElem? (i := 322) (by decide +kernel), List.mem_of_getElem? (i := 323) (by decide +kernel)⟩
theorem lw_p4 : lw_okq (⟨"TileArray$Placing", "putFirst", "()V"⟩, 4) := ⟨⟨by decide +kernel, by decide +kernel⟩, List.mem_of_getElem? (i := 126) (by decide +kernel), List.mem_of_getElem? (i := 338) (by decide +kernel), List.mem_of_getElem? (i := 339) (by decide +kernel)⟩
theorem lw_p5 : lw_okq (⟨"TileArray$Placing", "put", "(II)V"⟩, 4) := ⟨⟨by decide +kernel, by decide +kernel⟩, List.mem_of_getElem? (i := 126) (by decide +kernel), List.mem_of_getElem? (i := 348) (by decide +kernel), List.mem_of_getElem? (i := 349) (by decide +kernel)⟩
theorem lw_p6 : lw_okq (⟨"TileArray$Placing", "sumOfSpans", "()I"⟩, 4) := ⟨⟨by decide +kernel, by decide +kernel⟩, List.mem_of_getElem? (i := 126) (by decide +kernel), List.mem_of_getElem? (i := 352) (by decide +kernel), List.mem_of_getElem? (i := 353) (by decide +kernel)⟩
theorem lw_p7 : lw_okq (⟨"TileArray$Placing", "spanOf", "(I)I"⟩, 4) := ⟨⟨by decide +kernel, by decide +kernel⟩, List.mem_of_getElem? (i := 126) (by decide +kernel), List.mem_of_getElem? (i := 360) (by decide +kernel), List.mem_of_getElem? (i := 361) (by decide +kernel)⟩
theorem lw_p8 : lw_okq (⟨"TileArray$Placing", "goThrough", "(I)I"⟩, 4) := ⟨⟨by decide +kernel, by decide +kernel⟩, List.mem_of_getElem? (i := 126) (by decide +kernel), List.mem_of_getElem? (i := 382) (by decide +kernel), List.mem_of_getElem? (i := 383) (by decide +kernel)⟩
theorem lw_p9 : lw_okq (⟨"TileArray$Placing", "isFixed", "(I)Z"⟩, 4) := ⟨⟨by decide +kernel, by decide +kernel⟩, List.mem_of_getElem? (i := 126) (by decide +kernel), List.mem_of_getElem? (i := 386) (by decide +kernel), List.mem_of_getElem? (i := 387) (by decide +kernel)⟩
theorem lw_p10 : lw_okq (⟨"TileArray$Placing", "exchangeIfBetter", "(III)I"⟩, 4) := ⟨⟨by decide +kernel, by decide +kernel⟩, List.mem_of_getElem? (i := 126) (by decide +kernel), List.mem_of_getElem? (i := 390) (by decide +kernel), List.mem_of_getElem? (i := 391) (by decide +kernel)⟩
theorem lw_p11 : lw_okq (⟨"TileArray$Routing", "routeAll", "()Z"⟩, 11) := ⟨⟨by decide +kernel, by decide +kernel⟩, List.mem_of_getElem? (i := 145) (by decide +kernel), List.mem_of_getElem? (i := 399) (by decide +kernel), List.mem_of_getElem? (i := 400) (by decide +kernel)⟩
theorem lw_p12 : lw_okq (⟨"TileArray$Routing", "routeNet", "(I)Z"⟩, 11) := ⟨⟨by decide +kernel, by decide +kernel⟩, List.mem_of_getElem? (i := 145) (by decide +kernel), List.mem_of_getElem? (i := 404) (by decide +kernel), List.mem_of_getElem? (i := 405) (by decide +kernel)⟩
theorem lw_p13 : lw_okq (⟨"TileArray$Routing", "wireOf", "(I)I"⟩, 11) := ⟨⟨by decide +kernel, by decide +kernel⟩, List.mem_of_getElem? (i := 145) (by decide +kernel), List.mem_of_getElem? (i := 408) (by decide +kernel), List.mem_of_getElem? (i := 409) (by decide +kernel)⟩
theorem lw_p14 : lw_okq (⟨"TileArray$Routing", "startTree", "(I)V"⟩, 11) := ⟨⟨by decide +kernel, by decide +kernel⟩, List.mem_of_getElem? (i := 145) (by decide +kernel), List.mem_of_getElem? (i := 414) (by decide +kernel), List.mem_of_getElem? (i := 415) (by decide +kernel)⟩
theorem lw_p15 : lw_okq (⟨"TileArray$Routing", "spread", "()V"⟩, 11) := ⟨⟨by decide +kernel, by decide +kernel⟩, List.mem_of_getElem? (i := 145) (by decide +kernel), List.mem_of_getElem? (i := 419) (by decide +kernel), List.mem_of_getElem? (i := 420) (by decide +kernel)⟩
def lw_privs_1 : List (MethodName × Nat) := [(⟨"TileArray$Fabric", "laySwitches", "(I)V"⟩, 4), (⟨"TileArray$Fabric", "layChannel", "(III)V"⟩, 4), (⟨"TileArray$Fabric", "laySwitch", "(III)V"⟩, 4), (⟨"TileArray$Circuit", "orderIfReady", "(I)V"⟩, 11), (⟨"TileArray$Placing", "putFirst", "()V"⟩, 4), (⟨"TileArray$Placing", "put", "(II)V"⟩, 4), (⟨"TileArray$Placing", "sumOfSpans", "()I"⟩, 4), (⟨"TileArray$Placing", "spanOf", "(I)I"⟩, 4), (⟨"TileArray$Placing", "goThrough", "(I)I"⟩, 4), (⟨"TileArray$Placing", "isFixed", "(I)Z"⟩, 4), (⟨"TileArray$Placing", "exchangeIfBetter", "(III)I"⟩, 4), (⟨"TileArray$Routing", "routeAll", "()Z"⟩, 11), (⟨"TileArray$Routing", "routeNet", "(I)Z"⟩, 11), (⟨"TileArray$Routing", "wireOf", "(I)I"⟩, 11), (⟨"TileArray$Routing", "startTree", "(I)V"⟩, 11), (⟨"TileArray$Routing", "spread", "()V"⟩, 11)]
theorem lw_r1 : ∀ q ∈ lw_privs_1, lw_okq q := List.forall_mem_cons.mpr ⟨lw_p0, List.forall_mem_cons.mpr ⟨lw_p1, List.forall_mem_cons.mpr ⟨lw_p2, List.forall_mem_cons.mpr ⟨lw_p3, List.forall_mem_cons.mpr ⟨lw_p4, List.forall_mem_cons.mpr ⟨lw_p5, List.forall_mem_cons.mpr ⟨lw_p6, List.forall_mem_cons.mpr ⟨lw_p7, List.forall_mem_cons.mpr ⟨lw_p8, List.forall_mem_cons.mpr ⟨lw_p9, List.forall_mem_cons.mpr ⟨lw_p10, List.forall_mem_cons.mpr ⟨lw_p11, List.forall_mem_cons.mpr ⟨lw_p12, List.forall_mem_cons.mpr ⟨lw_p13, List.forall_mem_cons.mpr ⟨lw_p14, List.forall_mem_cons.mpr ⟨lw_p15, fun _ h => absurd h List.not_mem_nil⟩⟩⟩⟩⟩⟩⟩⟩⟩⟩⟩⟩⟩⟩⟩⟩
theorem lw_p16 : lw_okq (⟨"TileArray$Routing", "shorten", "(II)V"⟩, 11) := ⟨⟨by decide +kernel, by decide +kernel⟩, List.mem_of_getElem? (i := 145) (by decide +kernel), List.mem_of_getElem? (i := 423) (by decide +kernel), List.mem_of_getElem? (i := 424) (by decide +kernel)⟩
theorem lw_p17 : lw_okq (⟨"TileArray$Routing", "spreadFrom", "(I)V"⟩, 11) := ⟨⟨by decide +kernel, by decide +kernel⟩, List.mem_of_getElem? (i := 145) (by decide +kernel), List.mem_of_getElem? (i := 440) (by decide +kernel), List.mem_of_getElem? (i := 441) (by decide +kernel)⟩
theorem lw_p18 : lw_okq (⟨"TileArray$Routing", "endOfWay", "(I)I"⟩, 11) := ⟨⟨by decide +kernel, by decide +kernel⟩, List.mem_of_getElem? (i := 145) (by decide +kernel), List.mem_of_getElem? (i := 449) (by decide +kernel), List.mem_of_getElem? (i := 450) (by decide +kernel)⟩
theorem lw_p19 : lw_okq (⟨"TileArray$Routing", "switchPin", "(II)I"⟩, 11) := ⟨⟨by decide +kernel, by decide +kernel⟩, List.mem_of_getElem? (i := 145) (by decide +kernel), List.mem_of_getElem? (i := 454) (by decide +kernel), List.mem_of_getElem? (i := 455) (by decide +kernel)⟩
theorem lw_p20 : lw_okq (⟨"TileArray$Routing", "isNearer", "(II)Z"⟩, 11) := ⟨⟨by decide +kernel, by decide +kernel⟩, List.mem_of_getElem? (i := 145) (by decide +kernel), List.mem_of_getElem? (i := 462) (by decide +kernel), List.mem_of_getElem? (i := 463) (by decide +kernel)⟩
theorem lw_p21 : lw_okq (⟨"TileArray$Routing", "followBack", "(I)V"⟩, 11) := ⟨⟨by decide +kernel, by decide +kernel⟩, List.mem_of_getElem? (i := 145) (by decide +kernel), List.mem_of_getElem? (i := 469) (by decide +kernel), List.mem_of_getElem? (i := 470) (by decide +kernel)⟩
theorem lw_p22 : lw_okq (⟨"TileArray$Routing", "settingBack", "(I)I"⟩, 11) := ⟨⟨by decide +kernel, by decide +kernel⟩, List.mem_of_getElem? (i := 145) (by decide +kernel), List.mem_of_getElem? (i := 473) (by decide +kernel), List.mem_of_getElem? (i := 474) (by decide +kernel)⟩
theorem lw_p23 : lw_okq (⟨"TileArray$Routing", "growHistory", "()Z"⟩, 11) := ⟨⟨by decide +kernel, by decide +kernel⟩, List.mem_of_getElem? (i := 145) (by decide +kernel), List.mem_of_getElem? (i := 481) (by decide +kernel), List.mem_of_getElem? (i := 482) (by decide +kernel)⟩
theorem lw_p24 : lw_okq (⟨"TileArray", "keepBuilding", "(I)V"⟩, 8) := ⟨⟨by decide +kernel, by decide +kernel⟩, List.mem_of_getElem? (i := 15) (by decide +kernel), List.mem_of_getElem? (i := 485) (by decide +kernel), List.mem_of_getElem? (i := 486) (by decide +kernel)⟩
theorem lw_p25 : lw_okq (⟨"TileArray$Tiles", "trace", "(II)V"⟩, 6) := ⟨⟨by decide +kernel, by decide +kernel⟩, List.mem_of_getElem? (i := 204) (by decide +kernel), List.mem_of_getElem? (i := 522) (by decide +kernel), List.mem_of_getElem? (i := 523) (by decide +kernel)⟩
theorem lw_p26 : lw_okq (⟨"TileArray$Timing", "timeOutlets", "()Z"⟩, 3) := ⟨⟨by decide +kernel, by decide +kernel⟩, List.mem_of_getElem? (i := 231) (by decide +kernel), List.mem_of_getElem? (i := 598) (by decide +kernel), List.mem_of_getElem? (i := 599) (by decide +kernel)⟩
theorem lw_p27 : lw_okq (⟨"TileArray$Timing", "pinsAreKnown", "(I)Z"⟩, 3) := ⟨⟨by decide +kernel, by decide +kernel⟩, List.mem_of_getElem? (i := 231) (by decide +kernel), List.mem_of_getElem? (i := 604) (by decide +kernel), List.mem_of_getElem? (i := 605) (by decide +kernel)⟩
theorem lw_p28 : lw_okq (⟨"TileArray$Timing", "latestPin", "(I)D"⟩, 3) := ⟨⟨by decide +kernel, by decide +kernel⟩, List.mem_of_getElem? (i := 231) (by decide +kernel), List.mem_of_getElem? (i := 610) (by decide +kernel), List.mem_of_getElem? (i := 611) (by decide +kernel)⟩
theorem lw_p29 : lw_okq (⟨"TileArray$Timing", "arrival", "(I)D"⟩, 3) := ⟨⟨by decide +kernel, by decide +kernel⟩, List.mem_of_getElem? (i := 231) (by decide +kernel), List.mem_of_getElem? (i := 615) (by decide +kernel), List.mem_of_getElem? (i := 616) (by decide +kernel)⟩
theorem lw_p30 : lw_okq (⟨"TileArray$Tiles", "tableGives", "(II)I"⟩, 6) := ⟨⟨by decide +kernel, by decide +kernel⟩, List.mem_of_getElem? (i := 204) (by decide +kernel), List.mem_of_getElem? (i := 650) (by decide +kernel), List.mem_of_getElem? (i := 651) (by decide +kernel)⟩
theorem lw_p31 : lw_okq (⟨"TileArray$Tiles", "valueAt", "(II)I"⟩, 6) := ⟨⟨by decide +kernel, by decide +kernel⟩, List.mem_of_getElem? (i := 204) (by decide +kernel), List.mem_of_getElem? (i := 654) (by decide +kernel), List.mem_of_getElem? (i := 655) (by decide +kernel)⟩
def lw_privs_2 : List (MethodName × Nat) := [(⟨"TileArray$Routing", "shorten", "(II)V"⟩, 11), (⟨"TileArray$Routing", "spreadFrom", "(I)V"⟩, 11), (⟨"TileArray$Routing", "endOfWay", "(I)I"⟩, 11), (⟨"TileArray$Routing", "switchPin", "(II)I"⟩, 11), (⟨"TileArray$Routing", "isNearer", "(II)Z"⟩, 11), (⟨"TileArray$Routing", "followBack", "(I)V"⟩, 11), (⟨"TileArray$Routing", "settingBack", "(I)I"⟩, 11), (⟨"TileArray$Routing", "growHistory", "()Z"⟩, 11), (⟨"TileArray", "keepBuilding", "(I)V"⟩, 8), (⟨"TileArray$Tiles", "trace", "(II)V"⟩, 6), (⟨"TileArray$Timing", "timeOutlets", "()Z"⟩, 3), (⟨"TileArray$Timing", "pinsAreKnown", "(I)Z"⟩, 3), (⟨"TileArray$Timing", "latestPin", "(I)D"⟩, 3), (⟨"TileArray$Timing", "arrival", "(I)D"⟩, 3), (⟨"TileArray$Tiles", "tableGives", "(II)I"⟩, 6), (⟨"TileArray$Tiles", "valueAt", "(II)I"⟩, 6)]
theorem lw_r2 : ∀ q ∈ lw_privs_2, lw_okq q := List.forall_mem_cons.mpr ⟨lw_p16, List.forall_mem_cons.mpr ⟨lw_p17, List.forall_mem_cons.mpr ⟨lw_p18, List.forall_mem_cons.mpr ⟨lw_p19, List.forall_mem_cons.mpr ⟨lw_p20, List.forall_mem_cons.mpr ⟨lw_p21, List.forall_mem_cons.mpr ⟨lw_p22, List.forall_mem_cons.mpr ⟨lw_p23, List.forall_mem_cons.mpr ⟨lw_p24, List.forall_mem_cons.mpr ⟨lw_p25, List.forall_mem_cons.mpr ⟨lw_p26, List.forall_mem_cons.mpr ⟨lw_p27, List.forall_mem_cons.mpr ⟨lw_p28, List.forall_mem_cons.mpr ⟨lw_p29, List.forall_mem_cons.mpr ⟨lw_p30, List.forall_mem_cons.mpr ⟨lw_p31, fun _ h => absurd h List.not_mem_nil⟩⟩⟩⟩⟩⟩⟩⟩⟩⟩⟩⟩⟩⟩⟩⟩
theorem lw_p32 : lw_okq (⟨"TileArray$Tiles", "stepRegisters", "(I)V"⟩, 6) := ⟨⟨by decide +kernel, by decide +kernel⟩, List.mem_of_getElem? (i := 204) (by decide +kernel), List.mem_of_getElem? (i := 659) (by decide +kernel), List.mem_of_getElem? (i := 660) (by decide +kernel)⟩
theorem lw_p33 : lw_okq (⟨"TileArray$Circuit", "tableGives", "(I)I"⟩, 11) := ⟨⟨by decide +kernel, by decide +kernel⟩, List.mem_of_getElem? (i := 71) (by decide +kernel), List.mem_of_getElem? (i := 674) (by decide +kernel), List.mem_of_getElem? (i := 675) (by decide +kernel)⟩
theorem lw_p34 : lw_okq (⟨"TileArray$Circuit", "valueAt", "(I)I"⟩, 11) := ⟨⟨by decide +kernel, by decide +kernel⟩, List.mem_of_getElem? (i := 71) (by decide +kernel), List.mem_of_getElem? (i := 678) (by decide +kernel), List.mem_of_getElem? (i := 679) (by decide +kernel)⟩
theorem lw_p35 : lw_okq (⟨"TileArray$Circuit", "stepRegisters", "()V"⟩, 11) := ⟨⟨by decide +kernel, by decide +kernel⟩, List.mem_of_getElem? (i := 71) (by decide +kernel), List.mem_of_getElem? (i := 682) (by decide +kernel), List.mem_of_getElem? (i := 683) (by decide +kernel)⟩
theorem lw_p36 : lw_okq (⟨"TileArrayModel", "isSource", "(I)Z"⟩, 28) := ⟨⟨by decide +kernel, by decide +kernel⟩, List.mem_of_getElem? (i := 687) (by decide +kernel), List.mem_of_getElem? (i := 789) (by decide +kernel), List.mem_of_getElem? (i := 790) (by decide +kernel)⟩
theorem lw_p37 : lw_okq (⟨"TileArrayModel", "ring", "()Z"⟩, 28) := ⟨⟨by decide +kernel, by decide +kernel⟩, List.mem_of_getElem? (i := 687) (by decide +kernel), List.mem_of_getElem? (i := 805) (by decide +kernel), List.mem_of_getElem? (i := 806) (by decide +kernel)⟩
theorem lw_p38 : lw_okq (⟨"TileArrayModel", "place", "()V"⟩, 28) := ⟨⟨by decide +kernel, by decide +kernel⟩, List.mem_of_getElem? (i := 687) (by decide +kernel), List.mem_of_getElem? (i := 809) (by decide +kernel), List.mem_of_getElem? (i := 810) (by decide +kernel)⟩
theorem lw_p39 : lw_okq (⟨"TileArrayModel", "put", "(II)V"⟩, 28) := ⟨⟨by decide +kernel, by decide +kernel⟩, List.mem_of_getElem? (i := 687) (by decide +kernel), List.mem_of_getElem? (i := 813) (by decide +kernel), List.mem_of_getElem? (i := 814) (by decide +kernel)⟩
theorem lw_p40 : lw_okq (⟨"TileArrayModel", "pass", "()Z"⟩, 28) := ⟨⟨by decide +kernel, by decide +kernel⟩, List.mem_of_getElem? (i := 687) (by decide +kernel), List.mem_of_getElem? (i := 817) (by decide +kernel), List.mem_of_getElem? (i := 818) (by decide +kernel)⟩
theorem lw_p41 : lw_okq (⟨"TileArrayModel", "isFixed", "(I)Z"⟩, 28) := ⟨⟨by decide +kernel, by decide +kernel⟩, List.mem_of_getElem? (i := 687) (by decide +kernel), List.mem_of_getElem? (i := 821) (by decide +kernel), List.mem_of_getElem? (i := 822) (by decide +kernel)⟩
theorem lw_p42 : lw_okq (⟨"TileArrayModel", "placeCost", "()I"⟩, 28) := ⟨⟨by decide +kernel, by decide +kernel⟩, List.mem_of_getElem? (i := 687) (by decide +kernel), List.mem_of_getElem? (i := 825) (by decide +kernel), List.mem_of_getElem? (i := 826) (by decide +kernel)⟩
theorem lw_p43 : lw_okq (⟨"TileArrayModel", "hasSinks", "(I)Z"⟩, 28) := ⟨⟨by decide +kernel, by decide +kernel⟩, List.mem_of_getElem? (i := 687) (by decide +kernel), List.mem_of_getElem? (i := 829) (by decide +kernel), List.mem_of_getElem? (i := 830) (by decide +kernel)⟩
theorem lw_p44 : lw_okq (⟨"TileArrayModel", "span", "(IZ)I"⟩, 28) := ⟨⟨by decide +kernel, by decide +kernel⟩, List.mem_of_getElem? (i := 687) (by decide +kernel), List.mem_of_getElem? (i := 833) (by decide +kernel), List.mem_of_getElem? (i := 834) (by decide +kernel)⟩
theorem lw_p45 : lw_okq (⟨"TileArrayModel", "lies", "(IZ)I"⟩, 28) := ⟨⟨by decide +kernel, by decide +kernel⟩, List.mem_of_getElem? (i := 687) (by decide +kernel), List.mem_of_getElem? (i := 837) (by decide +kernel), List.mem_of_getElem? (i := 838) (by decide +kernel)⟩
theorem lw_p46 : lw_okq (⟨"TileArrayModel", "exchange", "(II)V"⟩, 28) := ⟨⟨by decide +kernel, by decide +kernel⟩, List.mem_of_getElem? (i := 687) (by decide +kernel), List.mem_of_getElem? (i := 841) (by decide +kernel), List.mem_of_getElem? (i := 842) (by decide +kernel)⟩
theorem lw_p47 : lw_okq (⟨"TileArrayModel", "round", "()I"⟩, 28) := ⟨⟨by decide +kernel, by decide +kernel⟩, List.mem_of_getElem? (i := 687) (by decide +kernel), List.mem_of_getElem? (i := 845) (by decide +kernel), List.mem_of_getElem? (i := 846) (by decide +kernel)⟩
def lw_privs_3 : List (MethodName × Nat) := [(⟨"TileArray$Tiles", "stepRegisters", "(I)V"⟩, 6), (⟨"TileArray$Circuit", "tableGives", "(I)I"⟩, 11), (⟨"TileArray$Circuit", "valueAt", "(I)I"⟩, 11), (⟨"TileArray$Circuit", "stepRegisters", "()V"⟩, 11), (⟨"TileArrayModel", "isSource", "(I)Z"⟩, 28), (⟨"TileArrayModel", "ring", "()Z"⟩, 28), (⟨"TileArrayModel", "place", "()V"⟩, 28), (⟨"TileArrayModel", "put", "(II)V"⟩, 28), (⟨"TileArrayModel", "pass", "()Z"⟩, 28), (⟨"TileArrayModel", "isFixed", "(I)Z"⟩, 28), (⟨"TileArrayModel", "placeCost", "()I"⟩, 28), (⟨"TileArrayModel", "hasSinks", "(I)Z"⟩, 28), (⟨"TileArrayModel", "span", "(IZ)I"⟩, 28), (⟨"TileArrayModel", "lies", "(IZ)I"⟩, 28), (⟨"TileArrayModel", "exchange", "(II)V"⟩, 28), (⟨"TileArrayModel", "round", "()I"⟩, 28)]
theorem lw_r3 : ∀ q ∈ lw_privs_3, lw_okq q := List.forall_mem_cons.mpr ⟨lw_p32, List.forall_mem_cons.mpr ⟨lw_p33, List.forall_mem_cons.mpr ⟨lw_p34, List.forall_mem_cons.mpr ⟨lw_p35, List.forall_mem_cons.mpr ⟨lw_p36, List.forall_mem_cons.mpr ⟨lw_p37, List.forall_mem_cons.mpr ⟨lw_p38, List.forall_mem_cons.mpr ⟨lw_p39, List.forall_mem_cons.mpr ⟨lw_p40, List.forall_mem_cons.mpr ⟨lw_p41, List.forall_mem_cons.mpr ⟨lw_p42, List.forall_mem_cons.mpr ⟨lw_p43, List.forall_mem_cons.mpr ⟨lw_p44, List.forall_mem_cons.mpr ⟨lw_p45, List.forall_mem_cons.mpr ⟨lw_p46, List.forall_mem_cons.mpr ⟨lw_p47, fun _ h => absurd h List.not_mem_nil⟩⟩⟩⟩⟩⟩⟩⟩⟩⟩⟩⟩⟩⟩⟩⟩
theorem lw_p48 : lw_okq (⟨"TileArrayModel", "routeNet", "(I)Z"⟩, 28) := ⟨⟨by decide +kernel, by decide +kernel⟩, List.mem_of_getElem? (i := 687) (by decide +kernel), List.mem_of_getElem? (i := 849) (by decide +kernel), List.mem_of_getElem? (i := 850) (by decide +kernel)⟩
theorem lw_p49 : lw_okq (⟨"TileArrayModel", "reach", "(I)Z"⟩, 28) := ⟨⟨by decide +kernel, by decide +kernel⟩, List.mem_of_getElem? (i := 687) (by decide +kernel), List.mem_of_getElem? (i := 853) (by decide +kernel), List.mem_of_getElem? (i := 854) (by decide +kernel)⟩
theorem lw_p50 : lw_okq (⟨"TileArrayModel", "relax", "()V"⟩, 28) := ⟨⟨by decide +kernel, by decide +kernel⟩, List.mem_of_getElem? (i := 687) (by decide +kernel), List.mem_of_getElem? (i := 857) (by decide +kernel), List.mem_of_getElem? (i := 858) (by decide +kernel)⟩
theorem lw_p51 : lw_okq (⟨"TileArrayModel", "leastBehind", "(I)I"⟩, 28) := ⟨⟨by decide +kernel, by decide +kernel⟩, List.mem_of_getElem? (i := 687) (by decide +kernel), List.mem_of_getElem? (i := 865) (by decide +kernel), List.mem_of_getElem? (i := 866) (by decide +kernel)⟩
theorem lw_p52 : lw_okq (⟨"TileArrayModel", "price", "(I)I"⟩, 28) := ⟨⟨by decide +kernel, by decide +kernel⟩, List.mem_of_getElem? (i := 687) (by decide +kernel), List.mem_of_getElem? (i := 878) (by decide +kernel), List.mem_of_getElem? (i := 879) (by decide +kernel)⟩
theorem lw_p53 : lw_okq (⟨"TileArrayModel", "follow", "(I)V"⟩, 28) := ⟨⟨by decide +kernel, by decide +kernel⟩, List.mem_of_getElem? (i := 687) (by decide +kernel), List.mem_of_getElem? (i := 885) (by decide +kernel), List.mem_of_getElem? (i := 886) (by decide +kernel)⟩
theorem lw_p54 : lw_okq (⟨"TileArrayModel", "makeBits", "()V"⟩, 28) := ⟨⟨by decide +kernel, by decide +kernel⟩, List.mem_of_getElem? (i := 687) (by decide +kernel), List.mem_of_getElem? (i := 895) (by decide +kernel), List.mem_of_getElem? (i := 896) (by decide +kernel)⟩
theorem lw_p55 : lw_okq (⟨"TileArrayModel", "gets", "(I)I"⟩, 28) := ⟨⟨by decide +kernel, by decide +kernel⟩, List.mem_of_getElem? (i := 687) (by decide +kernel), List.mem_of_getElem? (i := 932) (by decide +kernel), List.mem_of_getElem? (i := 933) (by decide +kernel)⟩
theorem lw_p56 : lw_okq (⟨"TileArrayModel", "comesFrom", "(I)I"⟩, 28) := ⟨⟨by decide +kernel, by decide +kernel⟩, List.mem_of_getElem? (i := 687) (by decide +kernel), List.mem_of_getElem? (i := 936) (by decide +kernel), List.mem_of_getElem? (i := 937) (by decide +kernel)⟩
theorem lw_p57 : lw_okq (⟨"TileArrayModel", "settle", "()Z"⟩, 28) := ⟨⟨by decide +kernel, by decide +kernel⟩, List.mem_of_getElem? (i := 687) (by decide +kernel), List.mem_of_getElem? (i := 953) (by decide +kernel), List.mem_of_getElem? (i := 954) (by decide +kernel)⟩
theorem lw_p58 : lw_okq (⟨"TileArrayModel", "latest", "(I)D"⟩, 28) := ⟨⟨by decide +kernel, by decide +kernel⟩, List.mem_of_getElem? (i := 687) (by decide +kernel), List.mem_of_getElem? (i := 957) (by decide +kernel), List.mem_of_getElem? (i := 958) (by decide +kernel)⟩
theorem lw_p59 : lw_okq (⟨"TileArrayModel", "arrives", "(I)D"⟩, 28) := ⟨⟨by decide +kernel, by decide +kernel⟩, List.mem_of_getElem? (i := 687) (by decide +kernel), List.mem_of_getElem? (i := 962) (by decide +kernel), List.mem_of_getElem? (i := 963) (by decide +kernel)⟩
theorem lw_p60 : lw_okq (⟨"TileArrayModel", "looked", "(II)I"⟩, 28) := ⟨⟨by decide +kernel, by decide +kernel⟩, List.mem_of_getElem? (i := 687) (by decide +kernel), List.mem_of_getElem? (i := 984) (by decide +kernel), List.mem_of_getElem? (i := 985) (by decide +kernel)⟩
theorem lw_p61 : lw_okq (⟨"TileArrayModel", "given", "(II)I"⟩, 28) := ⟨⟨by decide +kernel, by decide +kernel⟩, List.mem_of_getElem? (i := 687) (by decide +kernel), List.mem_of_getElem? (i := 988) (by decide +kernel), List.mem_of_getElem? (i := 989) (by decide +kernel)⟩
theorem lw_p62 : lw_okq (⟨"TileArrayModel", "lookedUp", "(II)I"⟩, 28) := ⟨⟨by decide +kernel, by decide +kernel⟩, List.mem_of_getElem? (i := 687) (by decide +kernel), List.mem_of_getElem? (i := 996) (by decide +kernel), List.mem_of_getElem? (i := 997) (by decide +kernel)⟩
theorem lw_p63 : lw_okq (⟨"TileArrayModel", "sourceValue", "(II)I"⟩, 28) := ⟨⟨by decide +kernel, by decide +kernel⟩, List.mem_of_getElem? (i := 687) (by decide +kernel), List.mem_of_getElem? (i := 1000) (by decide +kernel), List.mem_of_getElem? (i := 1001) (by decide +kernel)⟩
def lw_privs_4 : List (MethodName × Nat) := [(⟨"TileArrayModel", "routeNet", "(I)Z"⟩, 28), (⟨"TileArrayModel", "reach", "(I)Z"⟩, 28), (⟨"TileArrayModel", "relax", "()V"⟩, 28), (⟨"TileArrayModel", "leastBehind", "(I)I"⟩, 28), (⟨"TileArrayModel", "price", "(I)I"⟩, 28), (⟨"TileArrayModel", "follow", "(I)V"⟩, 28), (⟨"TileArrayModel", "makeBits", "()V"⟩, 28), (⟨"TileArrayModel", "gets", "(I)I"⟩, 28), (⟨"TileArrayModel", "comesFrom", "(I)I"⟩, 28), (⟨"TileArrayModel", "settle", "()Z"⟩, 28), (⟨"TileArrayModel", "latest", "(I)D"⟩, 28), (⟨"TileArrayModel", "arrives", "(I)D"⟩, 28), (⟨"TileArrayModel", "looked", "(II)I"⟩, 28), (⟨"TileArrayModel", "given", "(II)I"⟩, 28), (⟨"TileArrayModel", "lookedUp", "(II)I"⟩, 28), (⟨"TileArrayModel", "sourceValue", "(II)I"⟩, 28)]
theorem lw_r4 : ∀ q ∈ lw_privs_4, lw_okq q := List.forall_mem_cons.mpr ⟨lw_p48, List.forall_mem_cons.mpr ⟨lw_p49, List.forall_mem_cons.mpr ⟨lw_p50, List.forall_mem_cons.mpr ⟨lw_p51, List.forall_mem_cons.mpr ⟨lw_p52, List.forall_mem_cons.mpr ⟨lw_p53, List.forall_mem_cons.mpr ⟨lw_p54, List.forall_mem_cons.mpr ⟨lw_p55, List.forall_mem_cons.mpr ⟨lw_p56, List.forall_mem_cons.mpr ⟨lw_p57, List.forall_mem_cons.mpr ⟨lw_p58, List.forall_mem_cons.mpr ⟨lw_p59, List.forall_mem_cons.mpr ⟨lw_p60, List.forall_mem_cons.mpr ⟨lw_p61, List.forall_mem_cons.mpr ⟨lw_p62, List.forall_mem_cons.mpr ⟨lw_p63, fun _ h => absurd h List.not_mem_nil⟩⟩⟩⟩⟩⟩⟩⟩⟩⟩⟩⟩⟩⟩⟩⟩
def lw_privs : List (MethodName × Nat) := lw_privs_1 ++ (lw_privs_2 ++ (lw_privs_3 ++ (lw_privs_4)))
def lw_tbl : List Cond := k2_sels lw_privs ++ tables_1
theorem lw_privs_ok : ∀ q ∈ lw_privs, lw_okq q := by
  show ∀ q ∈ lw_privs_1 ++ (lw_privs_2 ++ (lw_privs_3 ++ (lw_privs_4))), lw_okq q
  exact List.forall_mem_append.mpr ⟨lw_r1, List.forall_mem_append.mpr ⟨lw_r2, List.forall_mem_append.mpr ⟨lw_r3, lw_r4⟩⟩⟩
/-- the streams that the claim lets the run draw from -/
abbrev lw_cs : List Choice := [Jvm.Choice.named "NaN.bits"]
theorem lw_bits : nanBits ∈ lw_cs := by first | decide | exact List.mem_cons_self | simp [lw_cs, nanBits]
end
section
/-! ===== BEGIN words of one list among another's, by their places ===== -/
theorem goodIn_r {big : List Cond} (ws : List Cond) (ps : List Nat) (hp : ws = ps.filterMap (fun i => big[i]?)) (h : ws.all goodWord = true) : GoodIn big ws := by
  intro w hw
  have h1 := List.all_eq_true.mp h w hw
  rw [hp] at hw
  obtain ⟨i, -, hi⟩ := List.mem_filterMap.mp hw
  have hm : w ∈ big := by first | exact List.mem_of_getElem? hi | exact List.getElem?_mem hi
  exact ⟨hm, good_of_word h1⟩
theorem goodIn_app {big a b : List Cond} (ha : GoodIn big a) (hb : GoodIn big b) : GoodIn big (a ++ b) := fun w h => (List.mem_append.mp h).elim (ha w) (hb w)
theorem goodIn_ca {big a b : List Cond} {c : Cond} (ha : GoodIn big (c :: a)) (hb : GoodIn big b) : GoodIn big (c :: (a ++ b)) := fun w h => (List.mem_cons.mp h).elim (fun e => ha w (List.mem_cons.mpr (Or.inl e))) (fun h => (List.mem_append.mp h).elim (fun h => ha w (List.mem_cons.mpr (Or.inr h))) (hb w))
theorem goodIn_sub {big ws : List Cond} (hm : ∀ w ∈ ws, w ∈ big) (h : ws.all goodWord = true) : GoodIn big ws := fun w hw => ⟨hm w hw, good_of_word (List.all_eq_true.mp h w hw)⟩
/-! ===== END ===== -/

/-! ===== BEGIN printed: names, fields, word lists, decode rows ===== -/
def RX0 : String := "TileArray$Circuit"
def TX0 : u_T := fun k => match k with
  | 0 => ("TileArray$Circuit", "table", "[I", true)
  | 1 => ("TileArray$Circuit", "register", "[Z", true)
  | 2 => ("TileArray$Circuit", "first", "[I", true)
  | 3 => ("TileArray$Circuit", "fixedTo", "[I", true)
  | 4 => ("TileArray$Circuit", "sourceOfSink", "[I", true)
  | 5 => ("TileArray$Circuit", "value", "[I", true)
  | 6 => ("TileArray$Circuit", "next", "[I", true)
  | 7 => ("TileArray$Circuit", "order", "[I", true)
  | 8 => ("TileArray$Circuit", "ordered", "[Z", true)
  | 9 => ("TileArray$Circuit", "size", "I", false)
  | _ => ("TileArray$Circuit", "orderSize", "I", false)
def tyX0 : Nat → FieldType := fun k => match k with
  | 0 => .array .int
  | 1 => .array .boolean
  | 2 => .array .int
  | 3 => .array .int
  | 4 => .array .int
  | 5 => .array .int
  | 6 => .array .int
  | 7 => .array .int
  | 8 => .array .boolean
  | 9 => .int
  | _ => .int
abbrev wsX00 : List Cond := u_ws RX0 TX0 11
theorem nmX0 : ∀ a, a < 11 → ∀ b, b < 11 → a ≠ b → (TX0 a).2.1 ≠ (TX0 b).2.1 := by decide +kernel
theorem tyX0_ok : ∀ k, k < 11 → parseFieldDescriptor (TX0 k).2.2.1 = some (tyX0 k) := by decide +kernel
abbrev cX0_init : ByteArray := prog_2_method_1_code
def yX0_init : MethodName := ⟨RX0, "<init>", "()V"⟩
abbrev cX0_size : ByteArray := prog_2_method_2_code
def yX0_size : MethodName := ⟨RX0, "size", "()I"⟩
abbrev cX0_hasCell : ByteArray := prog_2_method_3_code
def yX0_hasCell : MethodName := ⟨RX0, "hasCell", "(I)Z"⟩
abbrev cX0_addCell : ByteArray := prog_2_method_4_code
def yX0_addCell : MethodName := ⟨RX0, "addCell", "(IZZ)I"⟩
abbrev cX0_setSource : ByteArray := prog_2_method_5_code
def yX0_setSource : MethodName := ⟨RX0, "setSource", "(II)Z"⟩
abbrev cX0_sourceOf : ByteArray := prog_2_method_6_code
def yX0_sourceOf : MethodName := ⟨RX0, "sourceOf", "(I)I"⟩
abbrev cX0_setFixed : ByteArray := prog_2_method_7_code
def yX0_setFixed : MethodName := ⟨RX0, "setFixed", "(II)Z"⟩
abbrev cX0_fixedTile : ByteArray := prog_2_method_8_code
def yX0_fixedTile : MethodName := ⟨RX0, "fixedTile", "(I)I"⟩
abbrev cX0_settingsOf : ByteArray := prog_2_method_9_code
def yX0_settingsOf : MethodName := ⟨RX0, "settingsOf", "(I)J"⟩
abbrev cX0_hasRing : ByteArray := prog_2_method_10_code
def yX0_hasRing : MethodName := ⟨RX0, "hasRing", "()Z"⟩
abbrev cX0_step : ByteArray := prog_2_method_11_code
def yX0_step : MethodName := ⟨RX0, "step", "(I)I"⟩
abbrev cX0_restart : ByteArray := prog_2_method_12_code
def yX0_restart : MethodName := ⟨RX0, "restart", "()V"⟩
abbrev cX0_isInput : ByteArray := prog_2_method_13_code
def yX0_isInput : MethodName := ⟨RX0, "isInput", "(I)Z"⟩
abbrev cX0_orderIfReady : ByteArray := prog_2_method_14_code
def yX0_orderIfReady : MethodName := ⟨RX0, "orderIfReady", "(I)V"⟩
abbrev cX0_stepRegisters : ByteArray := prog_2_method_15_code
def yX0_stepRegisters : MethodName := ⟨RX0, "stepRegisters", "()V"⟩
abbrev cX0_tableGives : ByteArray := prog_2_method_16_code
def yX0_tableGives : MethodName := ⟨RX0, "tableGives", "(I)I"⟩
abbrev cX0_valueAt : ByteArray := prog_2_method_17_code
def yX0_valueAt : MethodName := ⟨RX0, "valueAt", "(I)I"⟩
def RX1 : String := "TileArray$Fabric"
def TX1 : u_T := fun k => match k with
  | 0 => ("TileArray$Fabric", "beforeChannel", "[I", true)
  | 1 => ("TileArray$Fabric", "beforePin", "[I", true)
  | 2 => ("TileArray$Fabric", "after", "[I", true)
  | _ => ("TileArray$Fabric", "afterCount", "[I", true)
def tyX1 : Nat → FieldType := fun k => match k with
  | 0 => .array .int
  | 1 => .array .int
  | 2 => .array .int
  | _ => .array .int
abbrev wsX10 : List Cond := u_ws RX1 TX1 4
theorem nmX1 : ∀ a, a < 4 → ∀ b, b < 4 → a ≠ b → (TX1 a).2.1 ≠ (TX1 b).2.1 := by decide +kernel
theorem tyX1_ok : ∀ k, k < 4 → parseFieldDescriptor (TX1 k).2.2.1 = some (tyX1 k) := by decide +kernel
abbrev cX1_init : ByteArray := prog_3_method_1_code
def yX1_init : MethodName := ⟨RX1, "<init>", "()V"⟩
abbrev cX1_isChannel : ByteArray := prog_3_method_2_code
def yX1_isChannel : MethodName := ⟨RX1, "isChannel", "(I)Z"⟩
abbrev cX1_outletOf : ByteArray := prog_3_method_3_code
def yX1_outletOf : MethodName := ⟨RX1, "outletOf", "(I)I"⟩
abbrev cX1_channelOf : ByteArray := prog_3_method_4_code
def yX1_channelOf : MethodName := ⟨RX1, "channelOf", "(III)I"⟩
abbrev cX1_outputWire : ByteArray := prog_3_method_5_code
def yX1_outputWire : MethodName := ⟨RX1, "outputWire", "(I)I"⟩
abbrev cX1_beforeChannel : ByteArray := prog_3_method_6_code
def yX1_beforeChannel : MethodName := ⟨RX1, "beforeChannel", "(II)I"⟩
abbrev cX1_beforePin : ByteArray := prog_3_method_7_code
def yX1_beforePin : MethodName := ⟨RX1, "beforePin", "(II)I"⟩
abbrev cX1_channelAfter : ByteArray := prog_3_method_8_code
def yX1_channelAfter : MethodName := ⟨RX1, "channelAfter", "(II)I"⟩
abbrev cX1_laySwitches : ByteArray := prog_3_method_9_code
def yX1_laySwitches : MethodName := ⟨RX1, "laySwitches", "(I)V"⟩
abbrev cX1_layChannel : ByteArray := prog_3_method_10_code
def yX1_layChannel : MethodName := ⟨RX1, "layChannel", "(III)V"⟩
abbrev cX1_laySwitch : ByteArray := prog_3_method_11_code
def yX1_laySwitch : MethodName := ⟨RX1, "laySwitch", "(III)V"⟩
abbrev cX1_wireInto : ByteArray := prog_3_method_12_code
def yX1_wireInto : MethodName := ⟨RX1, "wireInto", "(III)I"⟩
def RX2 : String := "TileArray$Nets"
def TX2 : u_T := fun k => match k with
  | 0 => ("TileArray$Nets", "start", "[I", true)
  | _ => ("TileArray$Nets", "sinks", "[I", true)
def tyX2 : Nat → FieldType := fun k => match k with
  | 0 => .array .int
  | _ => .array .int
abbrev wsX20 : List Cond := u_ws RX2 TX2 2
theorem nmX2 : ∀ a, a < 2 → ∀ b, b < 2 → a ≠ b → (TX2 a).2.1 ≠ (TX2 b).2.1 := by decide +kernel
theorem tyX2_ok : ∀ k, k < 2 → parseFieldDescriptor (TX2 k).2.2.1 = some (tyX2 k) := by decide +kernel
abbrev cX2_init : ByteArray := prog_4_method_1_code
def yX2_init : MethodName := ⟨RX2, "<init>", "()V"⟩
abbrev cX2_gather : ByteArray := prog_4_method_2_code
def yX2_gather : MethodName := ⟨RX2, "gather", "(LTileArray$Circuit;)V"⟩
abbrev cX2_sinksOf : ByteArray := prog_4_method_3_code
def yX2_sinksOf : MethodName := ⟨RX2, "sinksOf", "(I)I"⟩
abbrev cX2_sinkAt : ByteArray := prog_4_method_4_code
def yX2_sinkAt : MethodName := ⟨RX2, "sinkAt", "(II)I"⟩
def RX3 : String := "TileArray$Placing"
def TX3 : u_T := fun k => match k with
  | 0 => ("TileArray$Placing", "circuit", "LTileArray$Circuit;", true)
  | 1 => ("TileArray$Placing", "nets", "LTileArray$Nets;", true)
  | 2 => ("TileArray$Placing", "cellOn", "[I", true)
  | _ => ("TileArray$Placing", "tileUnder", "[I", true)
def tyX3 : Nat → FieldType := fun k => match k with
  | 0 => .object "TileArray$Circuit"
  | 1 => .object "TileArray$Nets"
  | 2 => .array .int
  | _ => .array .int
abbrev wsX30 : List Cond := u_ws RX3 TX3 4
theorem nmX3 : ∀ a, a < 4 → ∀ b, b < 4 → a ≠ b → (TX3 a).2.1 ≠ (TX3 b).2.1 := by decide +kernel
theorem tyX3_ok : ∀ k, k < 4 → parseFieldDescriptor (TX3 k).2.2.1 = some (tyX3 k) := by decide +kernel
abbrev cX3_init : ByteArray := prog_5_method_1_code
def yX3_init : MethodName := ⟨RX3, "<init>", "(LTileArray$Circuit;LTileArray$Nets;)V"⟩
abbrev cX3_cellAt : ByteArray := prog_5_method_2_code
def yX3_cellAt : MethodName := ⟨RX3, "cellAt", "(I)I"⟩
abbrev cX3_siteOf : ByteArray := prog_5_method_3_code
def yX3_siteOf : MethodName := ⟨RX3, "siteOf", "(I)I"⟩
abbrev cX3_siteOfSink : ByteArray := prog_5_method_4_code
def yX3_siteOfSink : MethodName := ⟨RX3, "siteOfSink", "(I)I"⟩
abbrev cX3_place : ByteArray := prog_5_method_5_code
def yX3_place : MethodName := ⟨RX3, "place", "()I"⟩
abbrev cX3_putFirst : ByteArray := prog_5_method_6_code
def yX3_putFirst : MethodName := ⟨RX3, "putFirst", "()V"⟩
abbrev cX3_put : ByteArray := prog_5_method_7_code
def yX3_put : MethodName := ⟨RX3, "put", "(II)V"⟩
abbrev cX3_goThrough : ByteArray := prog_5_method_8_code
def yX3_goThrough : MethodName := ⟨RX3, "goThrough", "(I)I"⟩
abbrev cX3_isFixed : ByteArray := prog_5_method_9_code
def yX3_isFixed : MethodName := ⟨RX3, "isFixed", "(I)Z"⟩
abbrev cX3_exchangeIfBetter : ByteArray := prog_5_method_10_code
def yX3_exchangeIfBetter : MethodName := ⟨RX3, "exchangeIfBetter", "(III)I"⟩
abbrev cX3_sumOfSpans : ByteArray := prog_5_method_11_code
def yX3_sumOfSpans : MethodName := ⟨RX3, "sumOfSpans", "()I"⟩
abbrev cX3_spanOf : ByteArray := prog_5_method_12_code
def yX3_spanOf : MethodName := ⟨RX3, "spanOf", "(I)I"⟩
def RX4 : String := "TileArray$Routing"
def TX4 : u_T := fun k => match k with
  | 0 => ("TileArray$Routing", "fabric", "LTileArray$Fabric;", true)
  | 1 => ("TileArray$Routing", "nets", "LTileArray$Nets;", true)
  | 2 => ("TileArray$Routing", "placing", "LTileArray$Placing;", true)
  | 3 => ("TileArray$Routing", "queue", "LTileArray$WireQueue;", true)
  | 4 => ("TileArray$Routing", "users", "[I", true)
  | 5 => ("TileArray$Routing", "history", "[I", true)
  | 6 => ("TileArray$Routing", "price", "[I", true)
  | 7 => ("TileArray$Routing", "distance", "[I", true)
  | 8 => ("TileArray$Routing", "inTree", "[Z", true)
  | 9 => ("TileArray$Routing", "channelSetting", "[I", true)
  | _ => ("TileArray$Routing", "pinSetting", "[I", true)
def tyX4 : Nat → FieldType := fun k => match k with
  | 0 => .object "TileArray$Fabric"
  | 1 => .object "TileArray$Nets"
  | 2 => .object "TileArray$Placing"
  | 3 => .object "TileArray$WireQueue"
  | 4 => .array .int
  | 5 => .array .int
  | 6 => .array .int
  | 7 => .array .int
  | 8 => .array .boolean
  | 9 => .array .int
  | _ => .array .int
abbrev wsX40 : List Cond := u_ws RX4 TX4 11
theorem nmX4 : ∀ a, a < 11 → ∀ b, b < 11 → a ≠ b → (TX4 a).2.1 ≠ (TX4 b).2.1 := by decide +kernel
theorem tyX4_ok : ∀ k, k < 11 → parseFieldDescriptor (TX4 k).2.2.1 = some (tyX4 k) := by decide +kernel
abbrev cX4_init : ByteArray := prog_6_method_1_code
def yX4_init : MethodName := ⟨RX4, "<init>", "(LTileArray$Fabric;LTileArray$Nets;LTileArray$Placing;)V"⟩
abbrev cX4_route : ByteArray := prog_6_method_2_code
def yX4_route : MethodName := ⟨RX4, "route", "()I"⟩
abbrev cX4_settingsOf : ByteArray := prog_6_method_3_code
def yX4_settingsOf : MethodName := ⟨RX4, "settingsOf", "(I)J"⟩
abbrev cX4_routeAll : ByteArray := prog_6_method_4_code
def yX4_routeAll : MethodName := ⟨RX4, "routeAll", "()Z"⟩
abbrev cX4_growHistory : ByteArray := prog_6_method_5_code
def yX4_growHistory : MethodName := ⟨RX4, "growHistory", "()Z"⟩
abbrev cX4_routeNet : ByteArray := prog_6_method_6_code
def yX4_routeNet : MethodName := ⟨RX4, "routeNet", "(I)Z"⟩
abbrev cX4_wireOf : ByteArray := prog_6_method_7_code
def yX4_wireOf : MethodName := ⟨RX4, "wireOf", "(I)I"⟩
abbrev cX4_startTree : ByteArray := prog_6_method_8_code
def yX4_startTree : MethodName := ⟨RX4, "startTree", "(I)V"⟩
abbrev cX4_spread : ByteArray := prog_6_method_9_code
def yX4_spread : MethodName := ⟨RX4, "spread", "()V"⟩
abbrev cX4_spreadFrom : ByteArray := prog_6_method_10_code
def yX4_spreadFrom : MethodName := ⟨RX4, "spreadFrom", "(I)V"⟩
abbrev cX4_shorten : ByteArray := prog_6_method_11_code
def yX4_shorten : MethodName := ⟨RX4, "shorten", "(II)V"⟩
abbrev cX4_endOfWay : ByteArray := prog_6_method_12_code
def yX4_endOfWay : MethodName := ⟨RX4, "endOfWay", "(I)I"⟩
abbrev cX4_switchPin : ByteArray := prog_6_method_13_code
def yX4_switchPin : MethodName := ⟨RX4, "switchPin", "(II)I"⟩
abbrev cX4_isNearer : ByteArray := prog_6_method_14_code
def yX4_isNearer : MethodName := ⟨RX4, "isNearer", "(II)Z"⟩
abbrev cX4_followBack : ByteArray := prog_6_method_15_code
def yX4_followBack : MethodName := ⟨RX4, "followBack", "(I)V"⟩
abbrev cX4_settingBack : ByteArray := prog_6_method_16_code
def yX4_settingBack : MethodName := ⟨RX4, "settingBack", "(I)I"⟩
def RX5 : String := "TileArray$Tiles"
def TX5 : u_T := fun k => match k with
  | 0 => ("TileArray$Tiles", "fabric", "LTileArray$Fabric;", true)
  | 1 => ("TileArray$Tiles", "bits", "[J", true)
  | 2 => ("TileArray$Tiles", "gives", "[I", true)
  | 3 => ("TileArray$Tiles", "next", "[I", true)
  | 4 => ("TileArray$Tiles", "origin", "[I", true)
  | _ => ("TileArray$Tiles", "length", "[I", true)
def tyX5 : Nat → FieldType := fun k => match k with
  | 0 => .object "TileArray$Fabric"
  | 1 => .array .long
  | 2 => .array .int
  | 3 => .array .int
  | 4 => .array .int
  | _ => .array .int
abbrev wsX50 : List Cond := u_ws RX5 TX5 6
theorem nmX5 : ∀ a, a < 6 → ∀ b, b < 6 → a ≠ b → (TX5 a).2.1 ≠ (TX5 b).2.1 := by decide +kernel
theorem tyX5_ok : ∀ k, k < 6 → parseFieldDescriptor (TX5 k).2.2.1 = some (tyX5 k) := by decide +kernel
abbrev cX5_init : ByteArray := prog_7_method_1_code
def yX5_init : MethodName := ⟨RX5, "<init>", "(LTileArray$Fabric;)V"⟩
abbrev cX5_areLegal : ByteArray := prog_7_method_2_code
def yX5_areLegal : MethodName := ⟨RX5, "areLegal", "(J)Z"⟩
abbrev cX5_bitsOf : ByteArray := prog_7_method_3_code
def yX5_bitsOf : MethodName := ⟨RX5, "bitsOf", "(I)J"⟩
abbrev cX5_hasRegister : ByteArray := prog_7_method_4_code
def yX5_hasRegister : MethodName := ⟨RX5, "hasRegister", "(I)Z"⟩
abbrev cX5_setBits : ByteArray := prog_7_method_5_code
def yX5_setBits : MethodName := ⟨RX5, "setBits", "(IJ)V"⟩
abbrev cX5_retrace : ByteArray := prog_7_method_6_code
def yX5_retrace : MethodName := ⟨RX5, "retrace", "()V"⟩
abbrev cX5_originOf : ByteArray := prog_7_method_7_code
def yX5_originOf : MethodName := ⟨RX5, "originOf", "(I)I"⟩
abbrev cX5_lengthOf : ByteArray := prog_7_method_8_code
def yX5_lengthOf : MethodName := ⟨RX5, "lengthOf", "(I)I"⟩
abbrev cX5_sumUp : ByteArray := prog_7_method_9_code
def yX5_sumUp : MethodName := ⟨RX5, "sumUp", "()I"⟩
abbrev cX5_restart : ByteArray := prog_7_method_10_code
def yX5_restart : MethodName := ⟨RX5, "restart", "()V"⟩
abbrev cX5_step : ByteArray := prog_7_method_11_code
def yX5_step : MethodName := ⟨RX5, "step", "(I)I"⟩
abbrev cX5_pinSetting : ByteArray := prog_7_method_12_code
def yX5_pinSetting : MethodName := ⟨RX5, "pinSetting", "(JI)I"⟩
abbrev cX5_channelSetting : ByteArray := prog_7_method_13_code
def yX5_channelSetting : MethodName := ⟨RX5, "channelSetting", "(JI)I"⟩
abbrev cX5_trace : ByteArray := prog_7_method_14_code
def yX5_trace : MethodName := ⟨RX5, "trace", "(II)V"⟩
abbrev cX5_originAt : ByteArray := prog_7_method_15_code
def yX5_originAt : MethodName := ⟨RX5, "originAt", "(I)I"⟩
abbrev cX5_stepRegisters : ByteArray := prog_7_method_16_code
def yX5_stepRegisters : MethodName := ⟨RX5, "stepRegisters", "(I)V"⟩
abbrev cX5_tableGives : ByteArray := prog_7_method_17_code
def yX5_tableGives : MethodName := ⟨RX5, "tableGives", "(II)I"⟩
abbrev cX5_valueAt : ByteArray := prog_7_method_18_code
def yX5_valueAt : MethodName := ⟨RX5, "valueAt", "(II)I"⟩
def RX6 : String := "TileArray$Timing"
def TX6 : u_T := fun k => match k with
  | 0 => ("TileArray$Timing", "tiles", "LTileArray$Tiles;", true)
  | 1 => ("TileArray$Timing", "outletAt", "[D", true)
  | _ => ("TileArray$Timing", "known", "[Z", true)
def tyX6 : Nat → FieldType := fun k => match k with
  | 0 => .object "TileArray$Tiles"
  | 1 => .array .double
  | _ => .array .boolean
abbrev wsX60 : List Cond := u_ws RX6 TX6 3
theorem nmX6 : ∀ a, a < 3 → ∀ b, b < 3 → a ≠ b → (TX6 a).2.1 ≠ (TX6 b).2.1 := by decide +kernel
theorem tyX6_ok : ∀ k, k < 3 → parseFieldDescriptor (TX6 k).2.2.1 = some (tyX6 k) := by decide +kernel
abbrev cX6_init : ByteArray := prog_8_method_1_code
def yX6_init : MethodName := ⟨RX6, "<init>", "(LTileArray$Tiles;)V"⟩
abbrev cX6_longestWay : ByteArray := prog_8_method_2_code
def yX6_longestWay : MethodName := ⟨RX6, "longestWay", "()D"⟩
abbrev cX6_timeOutlets : ByteArray := prog_8_method_3_code
def yX6_timeOutlets : MethodName := ⟨RX6, "timeOutlets", "()Z"⟩
abbrev cX6_pinsAreKnown : ByteArray := prog_8_method_4_code
def yX6_pinsAreKnown : MethodName := ⟨RX6, "pinsAreKnown", "(I)Z"⟩
abbrev cX6_latestPin : ByteArray := prog_8_method_5_code
def yX6_latestPin : MethodName := ⟨RX6, "latestPin", "(I)D"⟩
abbrev cX6_arrival : ByteArray := prog_8_method_6_code
def yX6_arrival : MethodName := ⟨RX6, "arrival", "(I)D"⟩
abbrev cX6_later : ByteArray := prog_8_method_7_code
def yX6_later : MethodName := ⟨RX6, "later", "(DD)D"⟩
def RX7 : String := "TileArray$WireQueue"
def TX7 : u_T := fun k => match k with
  | 0 => ("TileArray$WireQueue", "row", "[I", true)
  | 1 => ("TileArray$WireQueue", "waits", "[Z", true)
  | 2 => ("TileArray$WireQueue", "first", "I", false)
  | _ => ("TileArray$WireQueue", "size", "I", false)
def tyX7 : Nat → FieldType := fun k => match k with
  | 0 => .array .int
  | 1 => .array .boolean
  | 2 => .int
  | _ => .int
abbrev wsX70 : List Cond := u_ws RX7 TX7 4
theorem nmX7 : ∀ a, a < 4 → ∀ b, b < 4 → a ≠ b → (TX7 a).2.1 ≠ (TX7 b).2.1 := by decide +kernel
theorem tyX7_ok : ∀ k, k < 4 → parseFieldDescriptor (TX7 k).2.2.1 = some (tyX7 k) := by decide +kernel
abbrev cX7_init : ByteArray := prog_9_method_1_code
def yX7_init : MethodName := ⟨RX7, "<init>", "()V"⟩
abbrev cX7_isEmpty : ByteArray := prog_9_method_2_code
def yX7_isEmpty : MethodName := ⟨RX7, "isEmpty", "()Z"⟩
abbrev cX7_add : ByteArray := prog_9_method_3_code
def yX7_add : MethodName := ⟨RX7, "add", "(I)V"⟩
abbrev cX7_take : ByteArray := prog_9_method_4_code
def yX7_take : MethodName := ⟨RX7, "take", "()I"⟩
def RX8 : String := "TileArray"
def TX8 : u_T := fun k => match k with
  | 0 => ("TileArray", "circuit", "LTileArray$Circuit;", true)
  | 1 => ("TileArray", "nets", "LTileArray$Nets;", true)
  | 2 => ("TileArray", "placing", "LTileArray$Placing;", true)
  | 3 => ("TileArray", "routing", "LTileArray$Routing;", true)
  | 4 => ("TileArray", "tiles", "LTileArray$Tiles;", true)
  | 5 => ("TileArray", "timing", "LTileArray$Timing;", true)
  | 6 => ("TileArray", "builtOn", "[I", true)
  | _ => ("TileArray", "builtSpans", "I", false)
def tyX8 : Nat → FieldType := fun k => match k with
  | 0 => .object "TileArray$Circuit"
  | 1 => .object "TileArray$Nets"
  | 2 => .object "TileArray$Placing"
  | 3 => .object "TileArray$Routing"
  | 4 => .object "TileArray$Tiles"
  | 5 => .object "TileArray$Timing"
  | 6 => .array .int
  | _ => .int
abbrev wsX80 : List Cond := u_ws RX8 TX8 8
theorem nmX8 : ∀ a, a < 8 → ∀ b, b < 8 → a ≠ b → (TX8 a).2.1 ≠ (TX8 b).2.1 := by decide +kernel
theorem tyX8_ok : ∀ k, k < 8 → parseFieldDescriptor (TX8 k).2.2.1 = some (tyX8 k) := by decide +kernel
abbrev cX8_init : ByteArray := prog_1_method_1_code
def yX8_init : MethodName := ⟨RX8, "<init>", "()V"⟩
abbrev cX8_cell : ByteArray := prog_1_method_2_code
def yX8_cell : MethodName := ⟨RX8, "cell", "(IZZ)I"⟩
abbrev cX8_connect : ByteArray := prog_1_method_3_code
def yX8_connect : MethodName := ⟨RX8, "connect", "(III)Z"⟩
abbrev cX8_output : ByteArray := prog_1_method_4_code
def yX8_output : MethodName := ⟨RX8, "output", "(II)Z"⟩
abbrev cX8_fix : ByteArray := prog_1_method_5_code
def yX8_fix : MethodName := ⟨RX8, "fix", "(II)Z"⟩
abbrev cX8_build : ByteArray := prog_1_method_6_code
def yX8_build : MethodName := ⟨RX8, "build", "()I"⟩
abbrev cX8_tileOf : ByteArray := prog_1_method_7_code
def yX8_tileOf : MethodName := ⟨RX8, "tileOf", "(I)I"⟩
abbrev cX8_cost : ByteArray := prog_1_method_8_code
def yX8_cost : MethodName := ⟨RX8, "cost", "()I"⟩
abbrev cX8_bits : ByteArray := prog_1_method_9_code
def yX8_bits : MethodName := ⟨RX8, "bits", "(I)J"⟩
abbrev cX8_load : ByteArray := prog_1_method_10_code
def yX8_load : MethodName := ⟨RX8, "load", "(IJ)Z"⟩
abbrev cX8_checkSum : ByteArray := prog_1_method_11_code
def yX8_checkSum : MethodName := ⟨RX8, "checkSum", "()I"⟩
abbrev cX8_pin : ByteArray := prog_1_method_12_code
def yX8_pin : MethodName := ⟨RX8, "pin", "(II)I"⟩
abbrev cX8_outputOf : ByteArray := prog_1_method_13_code
def yX8_outputOf : MethodName := ⟨RX8, "outputOf", "(I)I"⟩
abbrev cX8_channels : ByteArray := prog_1_method_14_code
def yX8_channels : MethodName := ⟨RX8, "channels", "(II)I"⟩
abbrev cX8_longest : ByteArray := prog_1_method_15_code
def yX8_longest : MethodName := ⟨RX8, "longest", "()D"⟩
abbrev cX8_slack : ByteArray := prog_1_method_16_code
def yX8_slack : MethodName := ⟨RX8, "slack", "(D)D"⟩
abbrev cX8_reset : ByteArray := prog_1_method_17_code
def yX8_reset : MethodName := ⟨RX8, "reset", "()V"⟩
abbrev cX8_clock : ByteArray := prog_1_method_18_code
def yX8_clock : MethodName := ⟨RX8, "clock", "(I)I"⟩
abbrev cX8_run : ByteArray := prog_1_method_19_code
def yX8_run : MethodName := ⟨RX8, "run", "(I)I"⟩
abbrev cX8_wayTo : ByteArray := prog_1_method_20_code
def yX8_wayTo : MethodName := ⟨RX8, "wayTo", "(II)I"⟩
abbrev cX8_keepBuilding : ByteArray := prog_1_method_21_code
def yX8_keepBuilding : MethodName := ⟨RX8, "keepBuilding", "(I)V"⟩
def RX9 : String := "TileArrayModel"
def TX9 : u_T := fun k => match k with
  | 0 => ("TileArrayModel", "table", "[I", true)
  | 1 => ("TileArrayModel", "register", "[Z", true)
  | 2 => ("TileArrayModel", "first", "[Z", true)
  | 3 => ("TileArrayModel", "pinSwitch", "[I", true)
  | 4 => ("TileArrayModel", "channelSwitch", "[I", true)
  | 5 => ("TileArrayModel", "state", "[I", true)
  | 6 => ("TileArrayModel", "cells", "I", false)
  | 7 => ("TileArrayModel", "cellTable", "[I", true)
  | 8 => ("TileArrayModel", "cellRegister", "[Z", true)
  | 9 => ("TileArrayModel", "cellFirst", "[Z", true)
  | 10 => ("TileArrayModel", "cellState", "[I", true)
  | 11 => ("TileArrayModel", "fixed", "[I", true)
  | 12 => ("TileArrayModel", "source", "[I", true)
  | 13 => ("TileArrayModel", "built", "I", false)
  | 14 => ("TileArrayModel", "builtCost", "I", false)
  | 15 => ("TileArrayModel", "builtTile", "[I", true)
  | 16 => ("TileArrayModel", "tileIs", "[I", true)
  | 17 => ("TileArrayModel", "cellOn", "[I", true)
  | 18 => ("TileArrayModel", "uses", "[I", true)
  | 19 => ("TileArrayModel", "history", "[I", true)
  | 20 => ("TileArrayModel", "tree", "[Z", true)
  | 21 => ("TileArrayModel", "least", "[I", true)
  | 22 => ("TileArrayModel", "newPin", "[I", true)
  | 23 => ("TileArrayModel", "newChannel", "[I", true)
  | 24 => ("TileArrayModel", "seen", "[Z", true)
  | 25 => ("TileArrayModel", "passed", "I", false)
  | 26 => ("TileArrayModel", "times", "[D", true)
  | _ => ("TileArrayModel", "values", "[I", true)
def tyX9 : Nat → FieldType := fun k => match k with
  | 0 => .array .int
  | 1 => .array .boolean
  | 2 => .array .boolean
  | 3 => .array .int
  | 4 => .array .int
  | 5 => .array .int
  | 6 => .int
  | 7 => .array .int
  | 8 => .array .boolean
  | 9 => .array .boolean
  | 10 => .array .int
  | 11 => .array .int
  | 12 => .array .int
  | 13 => .int
  | 14 => .int
  | 15 => .array .int
  | 16 => .array .int
  | 17 => .array .int
  | 18 => .array .int
  | 19 => .array .int
  | 20 => .array .boolean
  | 21 => .array .int
  | 22 => .array .int
  | 23 => .array .int
  | 24 => .array .boolean
  | 25 => .int
  | 26 => .array .double
  | _ => .array .int
abbrev wsX90 : List Cond := u_ws RX9 TX9 28
theorem nmX9 : ∀ a, a < 28 → ∀ b, b < 28 → a ≠ b → (TX9 a).2.1 ≠ (TX9 b).2.1 := by decide +kernel
theorem tyX9_ok : ∀ k, k < 28 → parseFieldDescriptor (TX9 k).2.2.1 = some (tyX9 k) := by decide +kernel
abbrev cX9_init : ByteArray := prog_11_method_1_code
def yX9_init : MethodName := ⟨RX9, "<init>", "()V"⟩
abbrev cX9_in : ByteArray := prog_11_method_2_code
def yX9_in : MethodName := ⟨RX9, "in", "(III)Z"⟩
abbrev cX9_channel : ByteArray := prog_11_method_3_code
def yX9_channel : MethodName := ⟨RX9, "channel", "(III)I"⟩
abbrev cX9_comesIn : ByteArray := prog_11_method_4_code
def yX9_comesIn : MethodName := ⟨RX9, "comesIn", "(III)I"⟩
abbrev cX9_behindChannel : ByteArray := prog_11_method_5_code
def yX9_behindChannel : MethodName := ⟨RX9, "behindChannel", "(II)I"⟩
abbrev cX9_behindPin : ByteArray := prog_11_method_6_code
def yX9_behindPin : MethodName := ⟨RX9, "behindPin", "(II)I"⟩
abbrev cX9_wireOf : ByteArray := prog_11_method_7_code
def yX9_wireOf : MethodName := ⟨RX9, "wireOf", "(I)I"⟩
abbrev cX9_channelOf : ByteArray := prog_11_method_8_code
def yX9_channelOf : MethodName := ⟨RX9, "channelOf", "(I)I"⟩
abbrev cX9_outputWire : ByteArray := prog_11_method_9_code
def yX9_outputWire : MethodName := ⟨RX9, "outputWire", "(I)I"⟩
abbrev cX9_cell : ByteArray := prog_11_method_10_code
def yX9_cell : MethodName := ⟨RX9, "cell", "(IZZ)I"⟩
abbrev cX9_isSource : ByteArray := prog_11_method_11_code
def yX9_isSource : MethodName := ⟨RX9, "isSource", "(I)Z"⟩
abbrev cX9_connect : ByteArray := prog_11_method_12_code
def yX9_connect : MethodName := ⟨RX9, "connect", "(III)Z"⟩
abbrev cX9_output : ByteArray := prog_11_method_13_code
def yX9_output : MethodName := ⟨RX9, "output", "(II)Z"⟩
abbrev cX9_fix : ByteArray := prog_11_method_14_code
def yX9_fix : MethodName := ⟨RX9, "fix", "(II)Z"⟩
abbrev cX9_ring : ByteArray := prog_11_method_15_code
def yX9_ring : MethodName := ⟨RX9, "ring", "()Z"⟩
abbrev cX9_lies : ByteArray := prog_11_method_16_code
def yX9_lies : MethodName := ⟨RX9, "lies", "(IZ)I"⟩
abbrev cX9_span : ByteArray := prog_11_method_17_code
def yX9_span : MethodName := ⟨RX9, "span", "(IZ)I"⟩
abbrev cX9_hasSinks : ByteArray := prog_11_method_18_code
def yX9_hasSinks : MethodName := ⟨RX9, "hasSinks", "(I)Z"⟩
abbrev cX9_placeCost : ByteArray := prog_11_method_19_code
def yX9_placeCost : MethodName := ⟨RX9, "placeCost", "()I"⟩
abbrev cX9_put : ByteArray := prog_11_method_20_code
def yX9_put : MethodName := ⟨RX9, "put", "(II)V"⟩
abbrev cX9_exchange : ByteArray := prog_11_method_21_code
def yX9_exchange : MethodName := ⟨RX9, "exchange", "(II)V"⟩
abbrev cX9_isFixed : ByteArray := prog_11_method_22_code
def yX9_isFixed : MethodName := ⟨RX9, "isFixed", "(I)Z"⟩
abbrev cX9_pass : ByteArray := prog_11_method_23_code
def yX9_pass : MethodName := ⟨RX9, "pass", "()Z"⟩
abbrev cX9_place : ByteArray := prog_11_method_24_code
def yX9_place : MethodName := ⟨RX9, "place", "()V"⟩
abbrev cX9_price : ByteArray := prog_11_method_25_code
def yX9_price : MethodName := ⟨RX9, "price", "(I)I"⟩
abbrev cX9_leastBehind : ByteArray := prog_11_method_26_code
def yX9_leastBehind : MethodName := ⟨RX9, "leastBehind", "(I)I"⟩
abbrev cX9_relax : ByteArray := prog_11_method_27_code
def yX9_relax : MethodName := ⟨RX9, "relax", "()V"⟩
abbrev cX9_follow : ByteArray := prog_11_method_28_code
def yX9_follow : MethodName := ⟨RX9, "follow", "(I)V"⟩
abbrev cX9_reach : ByteArray := prog_11_method_29_code
def yX9_reach : MethodName := ⟨RX9, "reach", "(I)Z"⟩
abbrev cX9_routeNet : ByteArray := prog_11_method_30_code
def yX9_routeNet : MethodName := ⟨RX9, "routeNet", "(I)Z"⟩
abbrev cX9_round : ByteArray := prog_11_method_31_code
def yX9_round : MethodName := ⟨RX9, "round", "()I"⟩
abbrev cX9_makeBits : ByteArray := prog_11_method_32_code
def yX9_makeBits : MethodName := ⟨RX9, "makeBits", "()V"⟩
abbrev cX9_build : ByteArray := prog_11_method_33_code
def yX9_build : MethodName := ⟨RX9, "build", "()I"⟩
abbrev cX9_tileOf : ByteArray := prog_11_method_34_code
def yX9_tileOf : MethodName := ⟨RX9, "tileOf", "(I)I"⟩
abbrev cX9_cost : ByteArray := prog_11_method_35_code
def yX9_cost : MethodName := ⟨RX9, "cost", "()I"⟩
abbrev cX9_bits : ByteArray := prog_11_method_36_code
def yX9_bits : MethodName := ⟨RX9, "bits", "(I)J"⟩
abbrev cX9_load : ByteArray := prog_11_method_37_code
def yX9_load : MethodName := ⟨RX9, "load", "(IJ)Z"⟩
abbrev cX9_checkSum : ByteArray := prog_11_method_38_code
def yX9_checkSum : MethodName := ⟨RX9, "checkSum", "()I"⟩
abbrev cX9_comesFrom : ByteArray := prog_11_method_39_code
def yX9_comesFrom : MethodName := ⟨RX9, "comesFrom", "(I)I"⟩
abbrev cX9_gets : ByteArray := prog_11_method_40_code
def yX9_gets : MethodName := ⟨RX9, "gets", "(I)I"⟩
abbrev cX9_pin : ByteArray := prog_11_method_41_code
def yX9_pin : MethodName := ⟨RX9, "pin", "(II)I"⟩
abbrev cX9_outputOf : ByteArray := prog_11_method_42_code
def yX9_outputOf : MethodName := ⟨RX9, "outputOf", "(I)I"⟩
abbrev cX9_channels : ByteArray := prog_11_method_43_code
def yX9_channels : MethodName := ⟨RX9, "channels", "(II)I"⟩
abbrev cX9_arrives : ByteArray := prog_11_method_44_code
def yX9_arrives : MethodName := ⟨RX9, "arrives", "(I)D"⟩
abbrev cX9_latest : ByteArray := prog_11_method_45_code
def yX9_latest : MethodName := ⟨RX9, "latest", "(I)D"⟩
abbrev cX9_settle : ByteArray := prog_11_method_46_code
def yX9_settle : MethodName := ⟨RX9, "settle", "()Z"⟩
abbrev cX9_longest : ByteArray := prog_11_method_47_code
def yX9_longest : MethodName := ⟨RX9, "longest", "()D"⟩
abbrev cX9_slack : ByteArray := prog_11_method_48_code
def yX9_slack : MethodName := ⟨RX9, "slack", "(D)D"⟩
abbrev cX9_reset : ByteArray := prog_11_method_49_code
def yX9_reset : MethodName := ⟨RX9, "reset", "()V"⟩
abbrev cX9_given : ByteArray := prog_11_method_50_code
def yX9_given : MethodName := ⟨RX9, "given", "(II)I"⟩
abbrev cX9_looked : ByteArray := prog_11_method_51_code
def yX9_looked : MethodName := ⟨RX9, "looked", "(II)I"⟩
abbrev cX9_clock : ByteArray := prog_11_method_52_code
def yX9_clock : MethodName := ⟨RX9, "clock", "(I)I"⟩
abbrev cX9_sourceValue : ByteArray := prog_11_method_53_code
def yX9_sourceValue : MethodName := ⟨RX9, "sourceValue", "(II)I"⟩
abbrev cX9_lookedUp : ByteArray := prog_11_method_54_code
def yX9_lookedUp : MethodName := ⟨RX9, "lookedUp", "(II)I"⟩
abbrev cX9_run : ByteArray := prog_11_method_55_code
def yX9_run : MethodName := ⟨RX9, "run", "(I)I"⟩
def RJ9 : String := "java/lang/Math"
def TJ9 : u_T := fun k => match k with
  | _ => ("", "", "", false)
def tyJ9 : Nat → FieldType := fun k => match k with
  | _ => .int
abbrev wsJ90 : List Cond := u_ws RJ9 TJ9 0
theorem nmJ9 : ∀ a, a < 0 → ∀ b, b < 0 → a ≠ b → (TJ9 a).2.1 ≠ (TJ9 b).2.1 := by decide +kernel
theorem tyJ9_ok : ∀ k, k < 0 → parseFieldDescriptor (TJ9 k).2.2.1 = some (tyJ9 k) := by decide +kernel
abbrev cJ9_max_7cf53 : ByteArray := prog_12_method_65_code
def yJ9_max_7cf53 : MethodName := ⟨RJ9, "max", "(II)I"⟩
abbrev cJ9_min_7cf53 : ByteArray := prog_12_method_69_code
def yJ9_min_7cf53 : MethodName := ⟨RJ9, "min", "(II)I"⟩
def RJ10 : String := "java/lang/System"
def TJ10 : u_T := fun k => match k with
  | _ => ("", "", "", false)
def tyJ10 : Nat → FieldType := fun k => match k with
  | _ => .int
abbrev wsJ100 : List Cond := u_ws RJ10 TJ10 0
theorem nmJ10 : ∀ a, a < 0 → ∀ b, b < 0 → a ≠ b → (TJ10 a).2.1 ≠ (TJ10 b).2.1 := by decide +kernel
theorem tyJ10_ok : ∀ k, k < 0 → parseFieldDescriptor (TJ10 k).2.2.1 = some (tyJ10 k) := by decide +kernel
def RJ7 : String := "java/util/Arrays"
def TJ7 : u_T := fun k => match k with
  | _ => ("", "", "", false)
def tyJ7 : Nat → FieldType := fun k => match k with
  | _ => .int
abbrev wsJ70 : List Cond := u_ws RJ7 TJ7 0
theorem nmJ7 : ∀ a, a < 0 → ∀ b, b < 0 → a ≠ b → (TJ7 a).2.1 ≠ (TJ7 b).2.1 := by decide +kernel
theorem tyJ7_ok : ∀ k, k < 0 → parseFieldDescriptor (TJ7 k).2.2.1 = some (tyJ7 k) := by decide +kernel
abbrev cJ7_fill_53178 : ByteArray := prog_14_method_103_code
def yJ7_fill_53178 : MethodName := ⟨RJ7, "fill", "([II)V"⟩
def RL : String := "TileArrayLaw"
abbrev cL_law : ByteArray := code
def yL_law : MethodName := ⟨RL, "law", "([I)Z"⟩
def wsJ7_fill_53178 : List Cond := .code yJ7_fill_53178 cJ7_fill_53178 4 none :: ([])
def wsX0_init : List Cond := .code yX0_init cX0_init 1 none :: ([.methodLink RX0 3 objectInit, .instanceMethod objectInit, .code objectInit ⟨#[0xb1]⟩ 1 none, .arrayClass .int, .fieldLink RX0 9 "TileArray$Circuit" "table" "[I", .arrayClass .boolean, .fieldLink RX0 15 "TileArray$Circuit" "register" "[Z", .fieldLink RX0 19 "TileArray$Circuit" "first" "[I", .fieldLink RX0 22 "TileArray$Circuit" "fixedTo" "[I", .fieldLink RX0 25 "TileArray$Circuit" "sourceOfSink" "[I", .fieldLink RX0 28 "TileArray$Circuit" "value" "[I", .fieldLink RX0 31 "TileArray$Circuit" "next" "[I", .fieldLink RX0 34 "TileArray$Circuit" "order" "[I", .fieldLink RX0 37 "TileArray$Circuit" "ordered" "[Z", .methodLink RX0 40 yJ7_fill_53178, .static yJ7_fill_53178, .initialized RJ7, .code yJ7_fill_53178 cJ7_fill_53178 4 none] ++ wsX00)
def wsX0_size : List Cond := .code yX0_size cX0_size 1 (some .int) :: ([.fieldLink RX0 46 "TileArray$Circuit" "size" "I"] ++ wsX00)
def wsX0_hasCell : List Cond := .code yX0_hasCell cX0_hasCell 2 (some .boolean) :: ([.fieldLink RX0 46 "TileArray$Circuit" "size" "I"] ++ wsX00)
def wsX0_addCell : List Cond := .code yX0_addCell cX0_addCell 5 (some .int) :: ([.fieldLink RX0 46 "TileArray$Circuit" "size" "I", .fieldLink RX0 9 "TileArray$Circuit" "table" "[I", .fieldLink RX0 15 "TileArray$Circuit" "register" "[Z", .fieldLink RX0 19 "TileArray$Circuit" "first" "[I", .fieldLink RX0 28 "TileArray$Circuit" "value" "[I"] ++ wsX00)
def wsX0_isInput : List Cond := .code yX0_isInput cX0_isInput 1 (some .boolean) :: ([])
def wsX0_setSource : List Cond := .code yX0_setSource cX0_setSource 4 (some .boolean) :: ([.fieldLink RX0 25 "TileArray$Circuit" "sourceOfSink" "[I", .methodLink RX0 50 yX0_hasCell, .instanceMethod yX0_hasCell, .selects RX0 yX0_hasCell yX0_hasCell, .initialized RX0, .code yX0_hasCell cX0_hasCell 2 (some .boolean), .fieldLink RX0 46 "TileArray$Circuit" "size" "I", .methodLink RX0 54 yX0_isInput, .static yX0_isInput, .code yX0_isInput cX0_isInput 1 (some .boolean)] ++ wsX00)
def wsX0_sourceOf : List Cond := .code yX0_sourceOf cX0_sourceOf 2 (some .int) :: ([.fieldLink RX0 25 "TileArray$Circuit" "sourceOfSink" "[I"] ++ wsX00)
def wsX0_setFixed : List Cond := .code yX0_setFixed cX0_setFixed 4 (some .boolean) :: ([.fieldLink RX0 46 "TileArray$Circuit" "size" "I", .fieldLink RX0 22 "TileArray$Circuit" "fixedTo" "[I", .methodLink RX0 50 yX0_hasCell, .instanceMethod yX0_hasCell, .selects RX0 yX0_hasCell yX0_hasCell, .initialized RX0, .code yX0_hasCell cX0_hasCell 2 (some .boolean)] ++ wsX00)
def wsX0_fixedTile : List Cond := .code yX0_fixedTile cX0_fixedTile 2 (some .int) :: ([.fieldLink RX0 22 "TileArray$Circuit" "fixedTo" "[I", .methodLink RX0 50 yX0_hasCell, .instanceMethod yX0_hasCell, .selects RX0 yX0_hasCell yX0_hasCell, .initialized RX0, .code yX0_hasCell cX0_hasCell 2 (some .boolean), .fieldLink RX0 46 "TileArray$Circuit" "size" "I"] ++ wsX00)
def wsX0_settingsOf : List Cond := .code yX0_settingsOf cX0_settingsOf 3 (some .long) :: ([.fieldLink RX0 15 "TileArray$Circuit" "register" "[Z", .fieldLink RX0 9 "TileArray$Circuit" "table" "[I", .fieldLink RX0 19 "TileArray$Circuit" "first" "[I", .methodLink RX0 50 yX0_hasCell, .instanceMethod yX0_hasCell, .selects RX0 yX0_hasCell yX0_hasCell, .initialized RX0, .code yX0_hasCell cX0_hasCell 2 (some .boolean), .fieldLink RX0 46 "TileArray$Circuit" "size" "I"] ++ wsX00)
def wsX0_orderIfReady : List Cond := .code yX0_orderIfReady cX0_orderIfReady 4 none :: ([.fieldLink RX0 37 "TileArray$Circuit" "ordered" "[Z", .fieldLink RX0 57 "TileArray$Circuit" "orderSize" "I", .fieldLink RX0 25 "TileArray$Circuit" "sourceOfSink" "[I", .fieldLink RX0 34 "TileArray$Circuit" "order" "[I", .methodLink RX0 50 yX0_hasCell, .instanceMethod yX0_hasCell, .selects RX0 yX0_hasCell yX0_hasCell, .initialized RX0, .code yX0_hasCell cX0_hasCell 2 (some .boolean), .fieldLink RX0 46 "TileArray$Circuit" "size" "I"] ++ wsX00)
def wsX0_hasRing : List Cond := .code yX0_hasRing cX0_hasRing 4 (some .boolean) :: ([.fieldLink RX0 57 "TileArray$Circuit" "orderSize" "I", .fieldLink RX0 46 "TileArray$Circuit" "size" "I", .fieldLink RX0 37 "TileArray$Circuit" "ordered" "[Z", .fieldLink RX0 15 "TileArray$Circuit" "register" "[Z", .methodLink RX0 60 yX0_orderIfReady, .instanceMethod yX0_orderIfReady, .selects RX0 yX0_orderIfReady yX0_orderIfReady, .initialized RX0, .code yX0_orderIfReady cX0_orderIfReady 4 none, .fieldLink RX0 25 "TileArray$Circuit" "sourceOfSink" "[I", .fieldLink RX0 34 "TileArray$Circuit" "order" "[I", .methodLink RX0 50 yX0_hasCell, .instanceMethod yX0_hasCell, .selects RX0 yX0_hasCell yX0_hasCell, .code yX0_hasCell cX0_hasCell 2 (some .boolean)] ++ wsX00)
def wsX0_valueAt : List Cond := .code yX0_valueAt cX0_valueAt 3 (some .int) :: ([.fieldLink RX0 25 "TileArray$Circuit" "sourceOfSink" "[I", .fieldLink RX0 28 "TileArray$Circuit" "value" "[I"] ++ wsX00)
def wsX0_tableGives : List Cond := .code yX0_tableGives cX0_tableGives 4 (some .int) :: ([.fieldLink RX0 9 "TileArray$Circuit" "table" "[I", .methodLink RX0 68 yX0_valueAt, .instanceMethod yX0_valueAt, .selects RX0 yX0_valueAt yX0_valueAt, .initialized RX0, .code yX0_valueAt cX0_valueAt 3 (some .int), .fieldLink RX0 25 "TileArray$Circuit" "sourceOfSink" "[I", .fieldLink RX0 28 "TileArray$Circuit" "value" "[I"] ++ wsX00)
def wsX0_stepRegisters : List Cond := .code yX0_stepRegisters cX0_stepRegisters 2 none :: ([.fieldLink RX0 46 "TileArray$Circuit" "size" "I", .fieldLink RX0 31 "TileArray$Circuit" "next" "[I", .fieldLink RX0 15 "TileArray$Circuit" "register" "[Z", .fieldLink RX0 28 "TileArray$Circuit" "value" "[I", .methodLink RX0 74 arraycopyName, .native arraycopyName, .static arraycopyName, .initialized "java/lang/System", .methodLink RX0 64 yX0_tableGives, .instanceMethod yX0_tableGives, .selects RX0 yX0_tableGives yX0_tableGives, .initialized RX0, .code yX0_tableGives cX0_tableGives 4 (some .int), .fieldLink RX0 9 "TileArray$Circuit" "table" "[I", .methodLink RX0 68 yX0_valueAt, .instanceMethod yX0_valueAt, .selects RX0 yX0_valueAt yX0_valueAt, .code yX0_valueAt cX0_valueAt 3 (some .int), .fieldLink RX0 25 "TileArray$Circuit" "sourceOfSink" "[I"] ++ wsX00)
def wsX0_step_r1 : List Cond := [Cond.fieldLink RX0 28 "TileArray$Circuit" "value" "[I", Cond.fieldLink RX0 57 "TileArray$Circuit" "orderSize" "I", Cond.fieldLink RX0 34 "TileArray$Circuit" "order" "[I", Cond.methodLink RX0 64 yX0_tableGives, Cond.instanceMethod yX0_tableGives, Cond.selects RX0 yX0_tableGives yX0_tableGives, Cond.initialized RX0, Cond.code yX0_tableGives cX0_tableGives 4 (some .int), Cond.fieldLink RX0 9 "TileArray$Circuit" "table" "[I", Cond.methodLink RX0 68 yX0_valueAt, Cond.instanceMethod yX0_valueAt, Cond.selects RX0 yX0_valueAt yX0_valueAt, Cond.code yX0_valueAt cX0_valueAt 3 (some .int), Cond.fieldLink RX0 25 "TileArray$Circuit" "sourceOfSink" "[I", Cond.methodLink RX0 71 yX0_stepRegisters, Cond.instanceMethod yX0_stepRegisters, Cond.selects RX0 yX0_stepRegisters yX0_stepRegisters, Cond.code yX0_stepRegisters cX0_stepRegisters 2 none, Cond.fieldLink RX0 46 "TileArray$Circuit" "size" "I", Cond.fieldLink RX0 31 "TileArray$Circuit" "next" "[I", Cond.fieldLink RX0 15 "TileArray$Circuit" "register" "[Z", Cond.methodLink RX0 74 arraycopyName, Cond.native arraycopyName, Cond.static arraycopyName]
def wsX0_step_r2 : List Cond := [Cond.initialized "java/lang/System"]
def wsX0_step : List Cond := .code yX0_step cX0_step 4 (some .int) :: ((wsX0_step_r1 ++ wsX0_step_r2) ++ wsX00)
def wsX0_restart : List Cond := .code yX0_restart cX0_restart 2 none :: ([.fieldLink RX0 46 "TileArray$Circuit" "size" "I", .fieldLink RX0 15 "TileArray$Circuit" "register" "[Z", .fieldLink RX0 28 "TileArray$Circuit" "value" "[I", .fieldLink RX0 19 "TileArray$Circuit" "first" "[I"] ++ wsX00)
def wsX1_outletOf : List Cond := .code yX1_outletOf cX1_outletOf 1 (some .int) :: ([])
def wsX1_channelOf : List Cond := .code yX1_channelOf cX1_channelOf 3 (some .int) :: ([])
def wsX1_wireInto : List Cond := .code yX1_wireInto cX1_wireInto 6 (some .int) :: ([.fieldLink RX1 52 "TileArray$Fabric" "ROW_STEP" "[I", .fieldLink RX1 55 "TileArray$Fabric" "COLUMN_STEP" "[I", .methodLink RX1 34 yX1_channelOf, .static yX1_channelOf, .initialized RX1, .code yX1_channelOf cX1_channelOf 3 (some .int)])
def wsX1_laySwitch : List Cond := .code yX1_laySwitch cX1_laySwitch 4 none :: ([.fieldLink RX1 9 "TileArray$Fabric" "beforeChannel" "[I", .fieldLink RX1 21 "TileArray$Fabric" "afterCount" "[I", .fieldLink RX1 18 "TileArray$Fabric" "after" "[I"] ++ wsX10)
def wsX1_layChannel : List Cond := .code yX1_layChannel cX1_layChannel 7 none :: ([.methodLink RX1 34 yX1_channelOf, .static yX1_channelOf, .initialized RX1, .code yX1_channelOf cX1_channelOf 3 (some .int), .methodLink RX1 38 yX1_outletOf, .static yX1_outletOf, .code yX1_outletOf cX1_outletOf 1 (some .int), .methodLink RX1 49 yX1_laySwitch, .instanceMethod yX1_laySwitch, .selects RX1 yX1_laySwitch yX1_laySwitch, .code yX1_laySwitch cX1_laySwitch 4 none, .fieldLink RX1 9 "TileArray$Fabric" "beforeChannel" "[I", .fieldLink RX1 21 "TileArray$Fabric" "afterCount" "[I", .fieldLink RX1 18 "TileArray$Fabric" "after" "[I", .methodLink RX1 42 yX1_wireInto, .static yX1_wireInto, .code yX1_wireInto cX1_wireInto 6 (some .int), .fieldLink RX1 52 "TileArray$Fabric" "ROW_STEP" "[I", .fieldLink RX1 55 "TileArray$Fabric" "COLUMN_STEP" "[I"] ++ wsX10)
def wsX1_laySwitches : List Cond := .code yX1_laySwitches cX1_laySwitches 5 none :: ([.fieldLink RX1 15 "TileArray$Fabric" "beforePin" "[I", .methodLink RX1 38 yX1_outletOf, .static yX1_outletOf, .initialized RX1, .code yX1_outletOf cX1_outletOf 1 (some .int), .methodLink RX1 42 yX1_wireInto, .static yX1_wireInto, .code yX1_wireInto cX1_wireInto 6 (some .int), .fieldLink RX1 52 "TileArray$Fabric" "ROW_STEP" "[I", .fieldLink RX1 55 "TileArray$Fabric" "COLUMN_STEP" "[I", .methodLink RX1 34 yX1_channelOf, .static yX1_channelOf, .code yX1_channelOf cX1_channelOf 3 (some .int), .methodLink RX1 45 yX1_layChannel, .instanceMethod yX1_layChannel, .selects RX1 yX1_layChannel yX1_layChannel, .code yX1_layChannel cX1_layChannel 7 none, .methodLink RX1 49 yX1_laySwitch, .instanceMethod yX1_laySwitch, .selects RX1 yX1_laySwitch yX1_laySwitch, .code yX1_laySwitch cX1_laySwitch 4 none, .fieldLink RX1 9 "TileArray$Fabric" "beforeChannel" "[I", .fieldLink RX1 21 "TileArray$Fabric" "afterCount" "[I", .fieldLink RX1 18 "TileArray$Fabric" "after" "[I"] ++ wsX10)
def wsX1_init_r1 : List Cond := [Cond.methodLink RX1 3 objectInit, Cond.instanceMethod objectInit, Cond.code objectInit ⟨#[0xb1]⟩ 1 none, Cond.arrayClass .int, Cond.fieldLink RX1 9 "TileArray$Fabric" "beforeChannel" "[I", Cond.fieldLink RX1 15 "TileArray$Fabric" "beforePin" "[I", Cond.fieldLink RX1 18 "TileArray$Fabric" "after" "[I", Cond.fieldLink RX1 21 "TileArray$Fabric" "afterCount" "[I", Cond.methodLink RX1 24 yJ7_fill_53178, Cond.static yJ7_fill_53178, Cond.initialized RJ7, Cond.code yJ7_fill_53178 cJ7_fill_53178 4 none, Cond.methodLink RX1 30 yX1_laySwitches, Cond.instanceMethod yX1_laySwitches, Cond.selects RX1 yX1_laySwitches yX1_laySwitches, Cond.initialized RX1, Cond.code yX1_laySwitches cX1_laySwitches 5 none, Cond.methodLink RX1 38 yX1_outletOf, Cond.static yX1_outletOf, Cond.code yX1_outletOf cX1_outletOf 1 (some .int), Cond.methodLink RX1 42 yX1_wireInto, Cond.static yX1_wireInto, Cond.code yX1_wireInto cX1_wireInto 6 (some .int), Cond.fieldLink RX1 52 "TileArray$Fabric" "ROW_STEP" "[I"]
def wsX1_init_r2 : List Cond := [Cond.fieldLink RX1 55 "TileArray$Fabric" "COLUMN_STEP" "[I", Cond.methodLink RX1 34 yX1_channelOf, Cond.static yX1_channelOf, Cond.code yX1_channelOf cX1_channelOf 3 (some .int), Cond.methodLink RX1 45 yX1_layChannel, Cond.instanceMethod yX1_layChannel, Cond.selects RX1 yX1_layChannel yX1_layChannel, Cond.code yX1_layChannel cX1_layChannel 7 none, Cond.methodLink RX1 49 yX1_laySwitch, Cond.instanceMethod yX1_laySwitch, Cond.selects RX1 yX1_laySwitch yX1_laySwitch, Cond.code yX1_laySwitch cX1_laySwitch 4 none]
def wsX1_init : List Cond := .code yX1_init cX1_init 2 none :: ((wsX1_init_r1 ++ wsX1_init_r2) ++ wsX10)
def wsX1_isChannel : List Cond := .code yX1_isChannel cX1_isChannel 1 (some .boolean) :: ([])
def wsX1_outputWire : List Cond := .code yX1_outputWire cX1_outputWire 1 (some .int) :: ([.methodLink RX1 34 yX1_channelOf, .static yX1_channelOf, .initialized RX1, .code yX1_channelOf cX1_channelOf 3 (some .int)])
def wsX1_beforeChannel : List Cond := .code yX1_beforeChannel cX1_beforeChannel 5 (some .int) :: ([.fieldLink RX1 9 "TileArray$Fabric" "beforeChannel" "[I"] ++ wsX10)
def wsX1_beforePin : List Cond := .code yX1_beforePin cX1_beforePin 4 (some .int) :: ([.fieldLink RX1 15 "TileArray$Fabric" "beforePin" "[I"] ++ wsX10)
def wsX1_channelAfter : List Cond := .code yX1_channelAfter cX1_channelAfter 4 (some .int) :: ([.fieldLink RX1 21 "TileArray$Fabric" "afterCount" "[I", .fieldLink RX1 18 "TileArray$Fabric" "after" "[I"] ++ wsX10)
def wsX2_init : List Cond := .code yX2_init cX2_init 1 none :: ([.methodLink RX2 3 objectInit, .instanceMethod objectInit, .code objectInit ⟨#[0xb1]⟩ 1 none, .arrayClass .int, .fieldLink RX2 9 "TileArray$Nets" "start" "[I", .fieldLink RX2 15 "TileArray$Nets" "sinks" "[I"] ++ wsX20)
def wsX2_gather : List Cond := .code yX2_gather cX2_gather 5 none :: ([.fieldLink RX2 9 "TileArray$Nets" "start" "[I", .fieldLink RX2 15 "TileArray$Nets" "sinks" "[I", .methodLink RX2 18 yX0_sourceOf, .instanceMethod yX0_sourceOf, .selects RX0 yX0_sourceOf yX0_sourceOf, .initialized RX0, .code yX0_sourceOf cX0_sourceOf 2 (some .int), .fieldLink RX0 25 "TileArray$Circuit" "sourceOfSink" "[I"] ++ wsX20 ++ wsX00)
def wsX2_sinksOf : List Cond := .code yX2_sinksOf cX2_sinksOf 2 (some .int) :: ([.fieldLink RX2 9 "TileArray$Nets" "start" "[I"] ++ wsX20)
def wsX2_sinkAt : List Cond := .code yX2_sinkAt cX2_sinkAt 4 (some .int) :: ([.fieldLink RX2 9 "TileArray$Nets" "start" "[I", .fieldLink RX2 15 "TileArray$Nets" "sinks" "[I"] ++ wsX20)
def wsX3_init : List Cond := .code yX3_init cX3_init 3 none :: ([.methodLink RX3 3 objectInit, .instanceMethod objectInit, .code objectInit ⟨#[0xb1]⟩ 1 none, .fieldLink RX3 9 "TileArray$Placing" "circuit" "LTileArray$Circuit;", .fieldLink RX3 15 "TileArray$Placing" "nets" "LTileArray$Nets;", .arrayClass .int, .fieldLink RX3 19 "TileArray$Placing" "cellOn" "[I", .fieldLink RX3 23 "TileArray$Placing" "tileUnder" "[I"] ++ wsX30)
def wsX3_cellAt : List Cond := .code yX3_cellAt cX3_cellAt 2 (some .int) :: ([.fieldLink RX3 19 "TileArray$Placing" "cellOn" "[I"] ++ wsX30)
def wsX3_siteOf : List Cond := .code yX3_siteOf cX3_siteOf 2 (some .int) :: ([.fieldLink RX3 23 "TileArray$Placing" "tileUnder" "[I"] ++ wsX30)
def wsX3_siteOfSink : List Cond := .code yX3_siteOfSink cX3_siteOfSink 2 (some .int) :: ([.fieldLink RX3 23 "TileArray$Placing" "tileUnder" "[I"] ++ wsX30)
def wsX3_put : List Cond := .code yX3_put cX3_put 3 none :: ([.fieldLink RX3 19 "TileArray$Placing" "cellOn" "[I", .fieldLink RX3 23 "TileArray$Placing" "tileUnder" "[I"] ++ wsX30)
def wsX3_putFirst_r1 : List Cond := [Cond.fieldLink RX3 19 "TileArray$Placing" "cellOn" "[I", Cond.fieldLink RX3 9 "TileArray$Placing" "circuit" "LTileArray$Circuit;", Cond.methodLink RX3 37 yJ7_fill_53178, Cond.static yJ7_fill_53178, Cond.initialized RJ7, Cond.code yJ7_fill_53178 cJ7_fill_53178 4 none, Cond.methodLink RX3 43 yX0_size, Cond.instanceMethod yX0_size, Cond.selects RX0 yX0_size yX0_size, Cond.initialized RX0, Cond.code yX0_size cX0_size 1 (some .int), Cond.fieldLink RX0 46 "TileArray$Circuit" "size" "I", Cond.methodLink RX3 48 yX0_fixedTile, Cond.instanceMethod yX0_fixedTile, Cond.selects RX0 yX0_fixedTile yX0_fixedTile, Cond.code yX0_fixedTile cX0_fixedTile 2 (some .int), Cond.fieldLink RX0 22 "TileArray$Circuit" "fixedTo" "[I", Cond.methodLink RX0 50 yX0_hasCell, Cond.instanceMethod yX0_hasCell, Cond.selects RX0 yX0_hasCell yX0_hasCell, Cond.code yX0_hasCell cX0_hasCell 2 (some .boolean), Cond.methodLink RX3 51 yX3_put, Cond.instanceMethod yX3_put, Cond.selects RX3 yX3_put yX3_put]
def wsX3_putFirst_r2 : List Cond := [Cond.initialized RX3, Cond.code yX3_put cX3_put 3 none, Cond.fieldLink RX3 23 "TileArray$Placing" "tileUnder" "[I"]
def wsX3_putFirst : List Cond := .code yX3_putFirst cX3_putFirst 3 none :: ((wsX3_putFirst_r1 ++ wsX3_putFirst_r2) ++ wsX30 ++ wsX00)
def wsX3_spanOf_r1 : List Cond := [Cond.fieldLink RX3 15 "TileArray$Placing" "nets" "LTileArray$Nets;", Cond.methodLink RX3 81 Lib.Math.min.name, Cond.static Lib.Math.min.name, Cond.initialized "java/lang/Math", Cond.code Lib.Math.min.name Lib.Math.min.code 2 (some .int), Cond.methodLink RX3 86 Lib.Math.max.name, Cond.static Lib.Math.max.name, Cond.code Lib.Math.max.name Lib.Math.max.code 2 (some .int), Cond.methodLink RX3 71 yX3_siteOf, Cond.instanceMethod yX3_siteOf, Cond.selects RX3 yX3_siteOf yX3_siteOf, Cond.initialized RX3, Cond.code yX3_siteOf cX3_siteOf 2 (some .int), Cond.fieldLink RX3 23 "TileArray$Placing" "tileUnder" "[I", Cond.methodLink RX3 63 yX2_sinksOf, Cond.instanceMethod yX2_sinksOf, Cond.selects RX2 yX2_sinksOf yX2_sinksOf, Cond.initialized RX2, Cond.code yX2_sinksOf cX2_sinksOf 2 (some .int), Cond.fieldLink RX2 9 "TileArray$Nets" "start" "[I", Cond.methodLink RX3 74 yX2_sinkAt, Cond.instanceMethod yX2_sinkAt, Cond.selects RX2 yX2_sinkAt yX2_sinkAt, Cond.code yX2_sinkAt cX2_sinkAt 4 (some .int)]
def wsX3_spanOf_r2 : List Cond := [Cond.fieldLink RX2 15 "TileArray$Nets" "sinks" "[I", Cond.methodLink RX3 78 yX3_siteOfSink, Cond.instanceMethod yX3_siteOfSink, Cond.selects RX3 yX3_siteOfSink yX3_siteOfSink, Cond.code yX3_siteOfSink cX3_siteOfSink 2 (some .int)]
def wsX3_spanOf : List Cond := .code yX3_spanOf cX3_spanOf 8 (some .int) :: ((wsX3_spanOf_r1 ++ wsX3_spanOf_r2) ++ wsX30 ++ wsX20)
def wsX3_sumOfSpans_r1 : List Cond := [Cond.fieldLink RX3 15 "TileArray$Placing" "nets" "LTileArray$Nets;", Cond.methodLink RX3 63 yX2_sinksOf, Cond.instanceMethod yX2_sinksOf, Cond.selects RX2 yX2_sinksOf yX2_sinksOf, Cond.initialized RX2, Cond.code yX2_sinksOf cX2_sinksOf 2 (some .int), Cond.fieldLink RX2 9 "TileArray$Nets" "start" "[I", Cond.methodLink RX3 68 yX3_spanOf, Cond.instanceMethod yX3_spanOf, Cond.selects RX3 yX3_spanOf yX3_spanOf, Cond.initialized RX3, Cond.code yX3_spanOf cX3_spanOf 8 (some .int), Cond.methodLink RX3 81 Lib.Math.min.name, Cond.static Lib.Math.min.name, Cond.initialized "java/lang/Math", Cond.code Lib.Math.min.name Lib.Math.min.code 2 (some .int), Cond.methodLink RX3 86 Lib.Math.max.name, Cond.static Lib.Math.max.name, Cond.code Lib.Math.max.name Lib.Math.max.code 2 (some .int), Cond.methodLink RX3 71 yX3_siteOf, Cond.instanceMethod yX3_siteOf, Cond.selects RX3 yX3_siteOf yX3_siteOf, Cond.code yX3_siteOf cX3_siteOf 2 (some .int), Cond.fieldLink RX3 23 "TileArray$Placing" "tileUnder" "[I"]
def wsX3_sumOfSpans_r2 : List Cond := [Cond.methodLink RX3 74 yX2_sinkAt, Cond.instanceMethod yX2_sinkAt, Cond.selects RX2 yX2_sinkAt yX2_sinkAt, Cond.code yX2_sinkAt cX2_sinkAt 4 (some .int), Cond.fieldLink RX2 15 "TileArray$Nets" "sinks" "[I", Cond.methodLink RX3 78 yX3_siteOfSink, Cond.instanceMethod yX3_siteOfSink, Cond.selects RX3 yX3_siteOfSink yX3_siteOfSink, Cond.code yX3_siteOfSink cX3_siteOfSink 2 (some .int)]
def wsX3_sumOfSpans : List Cond := .code yX3_sumOfSpans cX3_sumOfSpans 3 (some .int) :: ((wsX3_sumOfSpans_r1 ++ wsX3_sumOfSpans_r2) ++ wsX30 ++ wsX20)
def wsX3_isFixed : List Cond := .code yX3_isFixed cX3_isFixed 2 (some .boolean) :: ([.fieldLink RX3 9 "TileArray$Placing" "circuit" "LTileArray$Circuit;", .fieldLink RX3 19 "TileArray$Placing" "cellOn" "[I", .methodLink RX3 48 yX0_fixedTile, .instanceMethod yX0_fixedTile, .selects RX0 yX0_fixedTile yX0_fixedTile, .initialized RX0, .code yX0_fixedTile cX0_fixedTile 2 (some .int), .fieldLink RX0 22 "TileArray$Circuit" "fixedTo" "[I", .methodLink RX0 50 yX0_hasCell, .instanceMethod yX0_hasCell, .selects RX0 yX0_hasCell yX0_hasCell, .code yX0_hasCell cX0_hasCell 2 (some .boolean), .fieldLink RX0 46 "TileArray$Circuit" "size" "I"] ++ wsX30 ++ wsX00)
def wsX3_exchangeIfBetter_r1 : List Cond := [Cond.fieldLink RX3 19 "TileArray$Placing" "cellOn" "[I", Cond.methodLink RX3 51 yX3_put, Cond.instanceMethod yX3_put, Cond.selects RX3 yX3_put yX3_put, Cond.initialized RX3, Cond.code yX3_put cX3_put 3 none, Cond.fieldLink RX3 23 "TileArray$Placing" "tileUnder" "[I", Cond.methodLink RX3 29 yX3_sumOfSpans, Cond.instanceMethod yX3_sumOfSpans, Cond.selects RX3 yX3_sumOfSpans yX3_sumOfSpans, Cond.code yX3_sumOfSpans cX3_sumOfSpans 3 (some .int), Cond.fieldLink RX3 15 "TileArray$Placing" "nets" "LTileArray$Nets;", Cond.methodLink RX3 63 yX2_sinksOf, Cond.instanceMethod yX2_sinksOf, Cond.selects RX2 yX2_sinksOf yX2_sinksOf, Cond.initialized RX2, Cond.code yX2_sinksOf cX2_sinksOf 2 (some .int), Cond.fieldLink RX2 9 "TileArray$Nets" "start" "[I", Cond.methodLink RX3 68 yX3_spanOf, Cond.instanceMethod yX3_spanOf, Cond.selects RX3 yX3_spanOf yX3_spanOf, Cond.code yX3_spanOf cX3_spanOf 8 (some .int), Cond.methodLink RX3 81 Lib.Math.min.name, Cond.static Lib.Math.min.name]
def wsX3_exchangeIfBetter_r2 : List Cond := [Cond.initialized "java/lang/Math", Cond.code Lib.Math.min.name Lib.Math.min.code 2 (some .int), Cond.methodLink RX3 86 Lib.Math.max.name, Cond.static Lib.Math.max.name, Cond.code Lib.Math.max.name Lib.Math.max.code 2 (some .int), Cond.methodLink RX3 71 yX3_siteOf, Cond.instanceMethod yX3_siteOf, Cond.selects RX3 yX3_siteOf yX3_siteOf, Cond.code yX3_siteOf cX3_siteOf 2 (some .int), Cond.methodLink RX3 74 yX2_sinkAt, Cond.instanceMethod yX2_sinkAt, Cond.selects RX2 yX2_sinkAt yX2_sinkAt, Cond.code yX2_sinkAt cX2_sinkAt 4 (some .int), Cond.fieldLink RX2 15 "TileArray$Nets" "sinks" "[I", Cond.methodLink RX3 78 yX3_siteOfSink, Cond.instanceMethod yX3_siteOfSink, Cond.selects RX3 yX3_siteOfSink yX3_siteOfSink, Cond.code yX3_siteOfSink cX3_siteOfSink 2 (some .int)]
def wsX3_exchangeIfBetter : List Cond := .code yX3_exchangeIfBetter cX3_exchangeIfBetter 7 (some .int) :: ((wsX3_exchangeIfBetter_r1 ++ wsX3_exchangeIfBetter_r2) ++ wsX30 ++ wsX20)
def wsX3_goThrough_r1 : List Cond := [Cond.methodLink RX3 55 yX3_isFixed, Cond.instanceMethod yX3_isFixed, Cond.selects RX3 yX3_isFixed yX3_isFixed, Cond.initialized RX3, Cond.code yX3_isFixed cX3_isFixed 2 (some .boolean), Cond.fieldLink RX3 9 "TileArray$Placing" "circuit" "LTileArray$Circuit;", Cond.fieldLink RX3 19 "TileArray$Placing" "cellOn" "[I", Cond.methodLink RX3 48 yX0_fixedTile, Cond.instanceMethod yX0_fixedTile, Cond.selects RX0 yX0_fixedTile yX0_fixedTile, Cond.initialized RX0, Cond.code yX0_fixedTile cX0_fixedTile 2 (some .int), Cond.fieldLink RX0 22 "TileArray$Circuit" "fixedTo" "[I", Cond.methodLink RX0 50 yX0_hasCell, Cond.instanceMethod yX0_hasCell, Cond.selects RX0 yX0_hasCell yX0_hasCell, Cond.code yX0_hasCell cX0_hasCell 2 (some .boolean), Cond.fieldLink RX0 46 "TileArray$Circuit" "size" "I", Cond.methodLink RX3 59 yX3_exchangeIfBetter, Cond.instanceMethod yX3_exchangeIfBetter, Cond.selects RX3 yX3_exchangeIfBetter yX3_exchangeIfBetter, Cond.code yX3_exchangeIfBetter cX3_exchangeIfBetter 7 (some .int), Cond.methodLink RX3 51 yX3_put, Cond.instanceMethod yX3_put]
def wsX3_goThrough_r2 : List Cond := [Cond.selects RX3 yX3_put yX3_put, Cond.code yX3_put cX3_put 3 none, Cond.fieldLink RX3 23 "TileArray$Placing" "tileUnder" "[I", Cond.methodLink RX3 29 yX3_sumOfSpans, Cond.instanceMethod yX3_sumOfSpans, Cond.selects RX3 yX3_sumOfSpans yX3_sumOfSpans, Cond.code yX3_sumOfSpans cX3_sumOfSpans 3 (some .int), Cond.fieldLink RX3 15 "TileArray$Placing" "nets" "LTileArray$Nets;", Cond.methodLink RX3 63 yX2_sinksOf, Cond.instanceMethod yX2_sinksOf, Cond.selects RX2 yX2_sinksOf yX2_sinksOf, Cond.initialized RX2, Cond.code yX2_sinksOf cX2_sinksOf 2 (some .int), Cond.fieldLink RX2 9 "TileArray$Nets" "start" "[I", Cond.methodLink RX3 68 yX3_spanOf, Cond.instanceMethod yX3_spanOf, Cond.selects RX3 yX3_spanOf yX3_spanOf, Cond.code yX3_spanOf cX3_spanOf 8 (some .int), Cond.methodLink RX3 81 Lib.Math.min.name, Cond.static Lib.Math.min.name, Cond.initialized "java/lang/Math", Cond.code Lib.Math.min.name Lib.Math.min.code 2 (some .int), Cond.methodLink RX3 86 Lib.Math.max.name, Cond.static Lib.Math.max.name]
def wsX3_goThrough_r3 : List Cond := [Cond.code Lib.Math.max.name Lib.Math.max.code 2 (some .int), Cond.methodLink RX3 71 yX3_siteOf, Cond.instanceMethod yX3_siteOf, Cond.selects RX3 yX3_siteOf yX3_siteOf, Cond.code yX3_siteOf cX3_siteOf 2 (some .int), Cond.methodLink RX3 74 yX2_sinkAt, Cond.instanceMethod yX2_sinkAt, Cond.selects RX2 yX2_sinkAt yX2_sinkAt, Cond.code yX2_sinkAt cX2_sinkAt 4 (some .int), Cond.fieldLink RX2 15 "TileArray$Nets" "sinks" "[I", Cond.methodLink RX3 78 yX3_siteOfSink, Cond.instanceMethod yX3_siteOfSink, Cond.selects RX3 yX3_siteOfSink yX3_siteOfSink, Cond.code yX3_siteOfSink cX3_siteOfSink 2 (some .int)]
def wsX3_goThrough : List Cond := .code yX3_goThrough cX3_goThrough 5 (some .int) :: ((wsX3_goThrough_r1 ++ (wsX3_goThrough_r2 ++ wsX3_goThrough_r3)) ++ wsX30 ++ wsX00 ++ wsX20)
def wsX3_place_r1 : List Cond := [Cond.methodLink RX3 26 yX3_putFirst, Cond.instanceMethod yX3_putFirst, Cond.selects RX3 yX3_putFirst yX3_putFirst, Cond.initialized RX3, Cond.code yX3_putFirst cX3_putFirst 3 none, Cond.fieldLink RX3 19 "TileArray$Placing" "cellOn" "[I", Cond.fieldLink RX3 9 "TileArray$Placing" "circuit" "LTileArray$Circuit;", Cond.methodLink RX3 37 yJ7_fill_53178, Cond.static yJ7_fill_53178, Cond.initialized RJ7, Cond.code yJ7_fill_53178 cJ7_fill_53178 4 none, Cond.methodLink RX3 43 yX0_size, Cond.instanceMethod yX0_size, Cond.selects RX0 yX0_size yX0_size, Cond.initialized RX0, Cond.code yX0_size cX0_size 1 (some .int), Cond.fieldLink RX0 46 "TileArray$Circuit" "size" "I", Cond.methodLink RX3 48 yX0_fixedTile, Cond.instanceMethod yX0_fixedTile, Cond.selects RX0 yX0_fixedTile yX0_fixedTile, Cond.code yX0_fixedTile cX0_fixedTile 2 (some .int), Cond.fieldLink RX0 22 "TileArray$Circuit" "fixedTo" "[I", Cond.methodLink RX0 50 yX0_hasCell, Cond.instanceMethod yX0_hasCell]
def wsX3_place_r2 : List Cond := [Cond.selects RX0 yX0_hasCell yX0_hasCell, Cond.code yX0_hasCell cX0_hasCell 2 (some .boolean), Cond.methodLink RX3 51 yX3_put, Cond.instanceMethod yX3_put, Cond.selects RX3 yX3_put yX3_put, Cond.code yX3_put cX3_put 3 none, Cond.fieldLink RX3 23 "TileArray$Placing" "tileUnder" "[I", Cond.methodLink RX3 29 yX3_sumOfSpans, Cond.instanceMethod yX3_sumOfSpans, Cond.selects RX3 yX3_sumOfSpans yX3_sumOfSpans, Cond.code yX3_sumOfSpans cX3_sumOfSpans 3 (some .int), Cond.fieldLink RX3 15 "TileArray$Placing" "nets" "LTileArray$Nets;", Cond.methodLink RX3 63 yX2_sinksOf, Cond.instanceMethod yX2_sinksOf, Cond.selects RX2 yX2_sinksOf yX2_sinksOf, Cond.initialized RX2, Cond.code yX2_sinksOf cX2_sinksOf 2 (some .int), Cond.fieldLink RX2 9 "TileArray$Nets" "start" "[I", Cond.methodLink RX3 68 yX3_spanOf, Cond.instanceMethod yX3_spanOf, Cond.selects RX3 yX3_spanOf yX3_spanOf, Cond.code yX3_spanOf cX3_spanOf 8 (some .int), Cond.methodLink RX3 81 Lib.Math.min.name, Cond.static Lib.Math.min.name]
def wsX3_place_r3 : List Cond := [Cond.initialized "java/lang/Math", Cond.code Lib.Math.min.name Lib.Math.min.code 2 (some .int), Cond.methodLink RX3 86 Lib.Math.max.name, Cond.static Lib.Math.max.name, Cond.code Lib.Math.max.name Lib.Math.max.code 2 (some .int), Cond.methodLink RX3 71 yX3_siteOf, Cond.instanceMethod yX3_siteOf, Cond.selects RX3 yX3_siteOf yX3_siteOf, Cond.code yX3_siteOf cX3_siteOf 2 (some .int), Cond.methodLink RX3 74 yX2_sinkAt, Cond.instanceMethod yX2_sinkAt, Cond.selects RX2 yX2_sinkAt yX2_sinkAt, Cond.code yX2_sinkAt cX2_sinkAt 4 (some .int), Cond.fieldLink RX2 15 "TileArray$Nets" "sinks" "[I", Cond.methodLink RX3 78 yX3_siteOfSink, Cond.instanceMethod yX3_siteOfSink, Cond.selects RX3 yX3_siteOfSink yX3_siteOfSink, Cond.code yX3_siteOfSink cX3_siteOfSink 2 (some .int), Cond.methodLink RX3 33 yX3_goThrough, Cond.instanceMethod yX3_goThrough, Cond.selects RX3 yX3_goThrough yX3_goThrough, Cond.code yX3_goThrough cX3_goThrough 5 (some .int), Cond.methodLink RX3 55 yX3_isFixed, Cond.instanceMethod yX3_isFixed]
def wsX3_place_r4 : List Cond := [Cond.selects RX3 yX3_isFixed yX3_isFixed, Cond.code yX3_isFixed cX3_isFixed 2 (some .boolean), Cond.methodLink RX3 59 yX3_exchangeIfBetter, Cond.instanceMethod yX3_exchangeIfBetter, Cond.selects RX3 yX3_exchangeIfBetter yX3_exchangeIfBetter, Cond.code yX3_exchangeIfBetter cX3_exchangeIfBetter 7 (some .int)]
def wsX3_place : List Cond := .code yX3_place cX3_place 4 (some .int) :: ((wsX3_place_r1 ++ (wsX3_place_r2 ++ (wsX3_place_r3 ++ wsX3_place_r4))) ++ wsX30 ++ wsX00 ++ wsX20)
def wsX7_init : List Cond := .code yX7_init cX7_init 1 none :: ([.methodLink RX7 3 objectInit, .instanceMethod objectInit, .code objectInit ⟨#[0xb1]⟩ 1 none, .arrayClass .int, .fieldLink RX7 9 "TileArray$WireQueue" "row" "[I", .arrayClass .boolean, .fieldLink RX7 15 "TileArray$WireQueue" "waits" "[Z"] ++ wsX70)
def wsX4_init_r1 : List Cond := [Cond.methodLink RX4 3 objectInit, Cond.instanceMethod objectInit, Cond.code objectInit ⟨#[0xb1]⟩ 1 none, Cond.fieldLink RX4 9 "TileArray$Routing" "fabric" "LTileArray$Fabric;", Cond.fieldLink RX4 15 "TileArray$Routing" "nets" "LTileArray$Nets;", Cond.fieldLink RX4 19 "TileArray$Routing" "placing" "LTileArray$Placing;", Cond.classLink RX4 23 RX7, Cond.instantiable RX7 4, Cond.initialized RX7, Cond.fieldLink RX4 26 "TileArray$Routing" "queue" "LTileArray$WireQueue;", Cond.arrayClass .int, Cond.fieldLink RX4 30 "TileArray$Routing" "users" "[I", Cond.fieldLink RX4 34 "TileArray$Routing" "history" "[I", Cond.fieldLink RX4 37 "TileArray$Routing" "price" "[I", Cond.fieldLink RX4 40 "TileArray$Routing" "distance" "[I", Cond.arrayClass .boolean, Cond.fieldLink RX4 43 "TileArray$Routing" "inTree" "[Z", Cond.fieldLink RX4 47 "TileArray$Routing" "channelSetting" "[I", Cond.fieldLink RX4 50 "TileArray$Routing" "pinSetting" "[I", Cond.methodLink RX4 25 yX7_init, Cond.instanceMethod yX7_init, Cond.code yX7_init cX7_init 1 none, Cond.methodLink RX7 3 objectInit, Cond.fieldLink RX7 9 "TileArray$WireQueue" "row" "[I"]
def wsX4_init_r2 : List Cond := [Cond.fieldLink RX7 15 "TileArray$WireQueue" "waits" "[Z"]
def wsX4_init : List Cond := .code yX4_init cX4_init 4 none :: ((wsX4_init_r1 ++ wsX4_init_r2) ++ wsX40 ++ wsX70)
def wsX4_wireOf : List Cond := .code yX4_wireOf cX4_wireOf 2 (some .int) :: ([.fieldLink RX4 19 "TileArray$Routing" "placing" "LTileArray$Placing;", .methodLink RX4 102 yX3_siteOf, .instanceMethod yX3_siteOf, .selects RX3 yX3_siteOf yX3_siteOf, .initialized RX3, .code yX3_siteOf cX3_siteOf 2 (some .int), .fieldLink RX3 23 "TileArray$Placing" "tileUnder" "[I", .methodLink RX4 66 yX1_outletOf, .static yX1_outletOf, .initialized RX1, .code yX1_outletOf cX1_outletOf 1 (some .int)] ++ wsX40 ++ wsX30)
def wsX4_startTree : List Cond := .code yX4_startTree cX4_startTree 3 none :: ([.fieldLink RX4 43 "TileArray$Routing" "inTree" "[Z", .fieldLink RX4 40 "TileArray$Routing" "distance" "[I", .constant RX4 98 (1048576), .fieldLink RX4 37 "TileArray$Routing" "price" "[I", .fieldLink RX4 30 "TileArray$Routing" "users" "[I", .fieldLink RX4 34 "TileArray$Routing" "history" "[I"] ++ wsX40)
def wsX7_add : List Cond := .code yX7_add cX7_add 2 none :: ([.fieldLink RX7 15 "TileArray$WireQueue" "waits" "[Z", .fieldLink RX7 19 "TileArray$WireQueue" "size" "I", .fieldLink RX7 9 "TileArray$WireQueue" "row" "[I", .fieldLink RX7 23 "TileArray$WireQueue" "first" "I"] ++ wsX70)
def wsX4_shorten : List Cond := .code yX4_shorten cX4_shorten 3 none :: ([.fieldLink RX4 40 "TileArray$Routing" "distance" "[I", .fieldLink RX4 26 "TileArray$Routing" "queue" "LTileArray$WireQueue;", .methodLink RX4 125 yX7_add, .instanceMethod yX7_add, .selects RX7 yX7_add yX7_add, .initialized RX7, .code yX7_add cX7_add 2 none, .fieldLink RX7 15 "TileArray$WireQueue" "waits" "[Z", .fieldLink RX7 19 "TileArray$WireQueue" "size" "I", .fieldLink RX7 9 "TileArray$WireQueue" "row" "[I", .fieldLink RX7 23 "TileArray$WireQueue" "first" "I"] ++ wsX40 ++ wsX70)
def wsX7_isEmpty : List Cond := .code yX7_isEmpty cX7_isEmpty 1 (some .boolean) :: ([.fieldLink RX7 19 "TileArray$WireQueue" "size" "I"] ++ wsX70)
def wsX7_take : List Cond := .code yX7_take cX7_take 2 (some .int) :: ([.fieldLink RX7 19 "TileArray$WireQueue" "size" "I", .fieldLink RX7 9 "TileArray$WireQueue" "row" "[I", .fieldLink RX7 23 "TileArray$WireQueue" "first" "I", .fieldLink RX7 15 "TileArray$WireQueue" "waits" "[Z"] ++ wsX70)
def wsX4_spreadFrom_r1 : List Cond := [Cond.fieldLink RX4 9 "TileArray$Routing" "fabric" "LTileArray$Fabric;", Cond.fieldLink RX4 40 "TileArray$Routing" "distance" "[I", Cond.fieldLink RX4 37 "TileArray$Routing" "price" "[I", Cond.methodLink RX4 122 yX1_channelAfter, Cond.instanceMethod yX1_channelAfter, Cond.selects RX1 yX1_channelAfter yX1_channelAfter, Cond.initialized RX1, Cond.code yX1_channelAfter cX1_channelAfter 4 (some .int), Cond.fieldLink RX1 21 "TileArray$Fabric" "afterCount" "[I", Cond.fieldLink RX1 18 "TileArray$Fabric" "after" "[I", Cond.methodLink RX4 107 yX4_shorten, Cond.instanceMethod yX4_shorten, Cond.selects RX4 yX4_shorten yX4_shorten, Cond.initialized RX4, Cond.code yX4_shorten cX4_shorten 3 none, Cond.fieldLink RX4 26 "TileArray$Routing" "queue" "LTileArray$WireQueue;", Cond.methodLink RX4 125 yX7_add, Cond.instanceMethod yX7_add, Cond.selects RX7 yX7_add yX7_add, Cond.initialized RX7, Cond.code yX7_add cX7_add 2 none, Cond.fieldLink RX7 15 "TileArray$WireQueue" "waits" "[Z", Cond.fieldLink RX7 19 "TileArray$WireQueue" "size" "I", Cond.fieldLink RX7 9 "TileArray$WireQueue" "row" "[I"]
def wsX4_spreadFrom_r2 : List Cond := [Cond.fieldLink RX7 23 "TileArray$WireQueue" "first" "I"]
def wsX4_spreadFrom : List Cond := .code yX4_spreadFrom cX4_spreadFrom 4 none :: ((wsX4_spreadFrom_r1 ++ wsX4_spreadFrom_r2) ++ wsX40 ++ wsX10 ++ wsX70)
def wsX4_spread_r1 : List Cond := [Cond.fieldLink RX4 43 "TileArray$Routing" "inTree" "[Z", Cond.constant RX4 111 (1000000), Cond.fieldLink RX4 26 "TileArray$Routing" "queue" "LTileArray$WireQueue;", Cond.methodLink RX4 107 yX4_shorten, Cond.instanceMethod yX4_shorten, Cond.selects RX4 yX4_shorten yX4_shorten, Cond.initialized RX4, Cond.code yX4_shorten cX4_shorten 3 none, Cond.fieldLink RX4 40 "TileArray$Routing" "distance" "[I", Cond.methodLink RX4 125 yX7_add, Cond.instanceMethod yX7_add, Cond.selects RX7 yX7_add yX7_add, Cond.initialized RX7, Cond.code yX7_add cX7_add 2 none, Cond.fieldLink RX7 15 "TileArray$WireQueue" "waits" "[Z", Cond.fieldLink RX7 19 "TileArray$WireQueue" "size" "I", Cond.fieldLink RX7 9 "TileArray$WireQueue" "row" "[I", Cond.fieldLink RX7 23 "TileArray$WireQueue" "first" "I", Cond.methodLink RX4 112 yX7_isEmpty, Cond.instanceMethod yX7_isEmpty, Cond.selects RX7 yX7_isEmpty yX7_isEmpty, Cond.code yX7_isEmpty cX7_isEmpty 1 (some .boolean), Cond.methodLink RX4 115 yX7_take, Cond.instanceMethod yX7_take]
def wsX4_spread_r2 : List Cond := [Cond.selects RX7 yX7_take yX7_take, Cond.code yX7_take cX7_take 2 (some .int), Cond.methodLink RX4 119 yX4_spreadFrom, Cond.instanceMethod yX4_spreadFrom, Cond.selects RX4 yX4_spreadFrom yX4_spreadFrom, Cond.code yX4_spreadFrom cX4_spreadFrom 4 none, Cond.fieldLink RX4 9 "TileArray$Routing" "fabric" "LTileArray$Fabric;", Cond.fieldLink RX4 37 "TileArray$Routing" "price" "[I", Cond.methodLink RX4 122 yX1_channelAfter, Cond.instanceMethod yX1_channelAfter, Cond.selects RX1 yX1_channelAfter yX1_channelAfter, Cond.initialized RX1, Cond.code yX1_channelAfter cX1_channelAfter 4 (some .int), Cond.fieldLink RX1 21 "TileArray$Fabric" "afterCount" "[I", Cond.fieldLink RX1 18 "TileArray$Fabric" "after" "[I"]
def wsX4_spread : List Cond := .code yX4_spread cX4_spread 2 none :: ((wsX4_spread_r1 ++ wsX4_spread_r2) ++ wsX40 ++ wsX70 ++ wsX10)
def wsX4_isNearer : List Cond := .code yX4_isNearer cX4_isNearer 4 (some .boolean) :: ([.fieldLink RX4 40 "TileArray$Routing" "distance" "[I"] ++ wsX40)
def wsX4_switchPin : List Cond := .code yX4_switchPin cX4_switchPin 6 (some .int) :: ([.fieldLink RX4 9 "TileArray$Routing" "fabric" "LTileArray$Fabric;", .fieldLink RX4 50 "TileArray$Routing" "pinSetting" "[I", .methodLink RX4 137 yX1_beforePin, .instanceMethod yX1_beforePin, .selects RX1 yX1_beforePin yX1_beforePin, .initialized RX1, .code yX1_beforePin cX1_beforePin 4 (some .int), .fieldLink RX1 15 "TileArray$Fabric" "beforePin" "[I", .methodLink RX4 140 yX4_isNearer, .instanceMethod yX4_isNearer, .selects RX4 yX4_isNearer yX4_isNearer, .initialized RX4, .code yX4_isNearer cX4_isNearer 4 (some .boolean), .fieldLink RX4 40 "TileArray$Routing" "distance" "[I"] ++ wsX40 ++ wsX10)
def wsX4_endOfWay_r1 : List Cond := [Cond.fieldLink RX4 19 "TileArray$Routing" "placing" "LTileArray$Placing;", Cond.methodLink RX4 128 yX3_siteOfSink, Cond.instanceMethod yX3_siteOfSink, Cond.selects RX3 yX3_siteOfSink yX3_siteOfSink, Cond.initialized RX3, Cond.code yX3_siteOfSink cX3_siteOfSink 2 (some .int), Cond.fieldLink RX3 23 "TileArray$Placing" "tileUnder" "[I", Cond.methodLink RX4 131 yX4_switchPin, Cond.instanceMethod yX4_switchPin, Cond.selects RX4 yX4_switchPin yX4_switchPin, Cond.initialized RX4, Cond.code yX4_switchPin cX4_switchPin 6 (some .int), Cond.fieldLink RX4 9 "TileArray$Routing" "fabric" "LTileArray$Fabric;", Cond.fieldLink RX4 50 "TileArray$Routing" "pinSetting" "[I", Cond.methodLink RX4 137 yX1_beforePin, Cond.instanceMethod yX1_beforePin, Cond.selects RX1 yX1_beforePin yX1_beforePin, Cond.initialized RX1, Cond.code yX1_beforePin cX1_beforePin 4 (some .int), Cond.fieldLink RX1 15 "TileArray$Fabric" "beforePin" "[I", Cond.methodLink RX4 140 yX4_isNearer, Cond.instanceMethod yX4_isNearer, Cond.selects RX4 yX4_isNearer yX4_isNearer, Cond.code yX4_isNearer cX4_isNearer 4 (some .boolean)]
def wsX4_endOfWay_r2 : List Cond := [Cond.fieldLink RX4 40 "TileArray$Routing" "distance" "[I", Cond.methodLink RX4 134 yX1_outputWire, Cond.static yX1_outputWire, Cond.code yX1_outputWire cX1_outputWire 1 (some .int), Cond.methodLink RX1 34 yX1_channelOf, Cond.static yX1_channelOf, Cond.code yX1_channelOf cX1_channelOf 3 (some .int)]
def wsX4_endOfWay : List Cond := .code yX4_endOfWay cX4_endOfWay 2 (some .int) :: ((wsX4_endOfWay_r1 ++ wsX4_endOfWay_r2) ++ wsX40 ++ wsX30 ++ wsX10)
def wsX4_settingBack : List Cond := .code yX4_settingBack cX4_settingBack 7 (some .int) :: ([.fieldLink RX4 9 "TileArray$Routing" "fabric" "LTileArray$Fabric;", .fieldLink RX4 40 "TileArray$Routing" "distance" "[I", .fieldLink RX4 37 "TileArray$Routing" "price" "[I", .methodLink RX4 147 yX1_beforeChannel, .instanceMethod yX1_beforeChannel, .selects RX1 yX1_beforeChannel yX1_beforeChannel, .initialized RX1, .code yX1_beforeChannel cX1_beforeChannel 5 (some .int), .fieldLink RX1 9 "TileArray$Fabric" "beforeChannel" "[I"] ++ wsX40 ++ wsX10)
def wsX4_followBack : List Cond := .code yX4_followBack cX4_followBack 5 none :: ([.fieldLink RX4 43 "TileArray$Routing" "inTree" "[Z", .fieldLink RX4 47 "TileArray$Routing" "channelSetting" "[I", .fieldLink RX4 9 "TileArray$Routing" "fabric" "LTileArray$Fabric;", .methodLink RX4 144 yX4_settingBack, .instanceMethod yX4_settingBack, .selects RX4 yX4_settingBack yX4_settingBack, .initialized RX4, .code yX4_settingBack cX4_settingBack 7 (some .int), .fieldLink RX4 40 "TileArray$Routing" "distance" "[I", .fieldLink RX4 37 "TileArray$Routing" "price" "[I", .methodLink RX4 147 yX1_beforeChannel, .instanceMethod yX1_beforeChannel, .selects RX1 yX1_beforeChannel yX1_beforeChannel, .initialized RX1, .code yX1_beforeChannel cX1_beforeChannel 5 (some .int), .fieldLink RX1 9 "TileArray$Fabric" "beforeChannel" "[I"] ++ wsX40 ++ wsX10)
def wsX4_routeNet_r1 : List Cond := [Cond.fieldLink RX4 15 "TileArray$Routing" "nets" "LTileArray$Nets;", Cond.fieldLink RX4 40 "TileArray$Routing" "distance" "[I", Cond.constant RX4 98 (1048576), Cond.fieldLink RX4 30 "TileArray$Routing" "users" "[I", Cond.fieldLink RX4 43 "TileArray$Routing" "inTree" "[Z", Cond.methodLink RX4 81 yX4_wireOf, Cond.instanceMethod yX4_wireOf, Cond.selects RX4 yX4_wireOf yX4_wireOf, Cond.initialized RX4, Cond.code yX4_wireOf cX4_wireOf 2 (some .int), Cond.fieldLink RX4 19 "TileArray$Routing" "placing" "LTileArray$Placing;", Cond.methodLink RX4 102 yX3_siteOf, Cond.instanceMethod yX3_siteOf, Cond.selects RX3 yX3_siteOf yX3_siteOf, Cond.initialized RX3, Cond.code yX3_siteOf cX3_siteOf 2 (some .int), Cond.fieldLink RX3 23 "TileArray$Placing" "tileUnder" "[I", Cond.methodLink RX4 66 yX1_outletOf, Cond.static yX1_outletOf, Cond.initialized RX1, Cond.code yX1_outletOf cX1_outletOf 1 (some .int), Cond.methodLink RX4 84 yX4_startTree, Cond.instanceMethod yX4_startTree, Cond.selects RX4 yX4_startTree yX4_startTree]
def wsX4_routeNet_r2 : List Cond := [Cond.code yX4_startTree cX4_startTree 3 none, Cond.fieldLink RX4 37 "TileArray$Routing" "price" "[I", Cond.fieldLink RX4 34 "TileArray$Routing" "history" "[I", Cond.methodLink RX4 72 yX2_sinksOf, Cond.instanceMethod yX2_sinksOf, Cond.selects RX2 yX2_sinksOf yX2_sinksOf, Cond.initialized RX2, Cond.code yX2_sinksOf cX2_sinksOf 2 (some .int), Cond.fieldLink RX2 9 "TileArray$Nets" "start" "[I", Cond.methodLink RX4 88 yX4_spread, Cond.instanceMethod yX4_spread, Cond.selects RX4 yX4_spread yX4_spread, Cond.code yX4_spread cX4_spread 2 none, Cond.constant RX4 111 (1000000), Cond.fieldLink RX4 26 "TileArray$Routing" "queue" "LTileArray$WireQueue;", Cond.methodLink RX4 107 yX4_shorten, Cond.instanceMethod yX4_shorten, Cond.selects RX4 yX4_shorten yX4_shorten, Cond.code yX4_shorten cX4_shorten 3 none, Cond.methodLink RX4 125 yX7_add, Cond.instanceMethod yX7_add, Cond.selects RX7 yX7_add yX7_add, Cond.initialized RX7, Cond.code yX7_add cX7_add 2 none]
def wsX4_routeNet_r3 : List Cond := [Cond.fieldLink RX7 15 "TileArray$WireQueue" "waits" "[Z", Cond.fieldLink RX7 19 "TileArray$WireQueue" "size" "I", Cond.fieldLink RX7 9 "TileArray$WireQueue" "row" "[I", Cond.fieldLink RX7 23 "TileArray$WireQueue" "first" "I", Cond.methodLink RX4 112 yX7_isEmpty, Cond.instanceMethod yX7_isEmpty, Cond.selects RX7 yX7_isEmpty yX7_isEmpty, Cond.code yX7_isEmpty cX7_isEmpty 1 (some .boolean), Cond.methodLink RX4 115 yX7_take, Cond.instanceMethod yX7_take, Cond.selects RX7 yX7_take yX7_take, Cond.code yX7_take cX7_take 2 (some .int), Cond.methodLink RX4 119 yX4_spreadFrom, Cond.instanceMethod yX4_spreadFrom, Cond.selects RX4 yX4_spreadFrom yX4_spreadFrom, Cond.code yX4_spreadFrom cX4_spreadFrom 4 none, Cond.fieldLink RX4 9 "TileArray$Routing" "fabric" "LTileArray$Fabric;", Cond.methodLink RX4 122 yX1_channelAfter, Cond.instanceMethod yX1_channelAfter, Cond.selects RX1 yX1_channelAfter yX1_channelAfter, Cond.code yX1_channelAfter cX1_channelAfter 4 (some .int), Cond.fieldLink RX1 21 "TileArray$Fabric" "afterCount" "[I", Cond.fieldLink RX1 18 "TileArray$Fabric" "after" "[I", Cond.methodLink RX4 91 yX2_sinkAt]
def wsX4_routeNet_r4 : List Cond := [Cond.instanceMethod yX2_sinkAt, Cond.selects RX2 yX2_sinkAt yX2_sinkAt, Cond.code yX2_sinkAt cX2_sinkAt 4 (some .int), Cond.fieldLink RX2 15 "TileArray$Nets" "sinks" "[I", Cond.methodLink RX4 95 yX4_endOfWay, Cond.instanceMethod yX4_endOfWay, Cond.selects RX4 yX4_endOfWay yX4_endOfWay, Cond.code yX4_endOfWay cX4_endOfWay 2 (some .int), Cond.methodLink RX4 128 yX3_siteOfSink, Cond.instanceMethod yX3_siteOfSink, Cond.selects RX3 yX3_siteOfSink yX3_siteOfSink, Cond.code yX3_siteOfSink cX3_siteOfSink 2 (some .int), Cond.methodLink RX4 131 yX4_switchPin, Cond.instanceMethod yX4_switchPin, Cond.selects RX4 yX4_switchPin yX4_switchPin, Cond.code yX4_switchPin cX4_switchPin 6 (some .int), Cond.fieldLink RX4 50 "TileArray$Routing" "pinSetting" "[I", Cond.methodLink RX4 137 yX1_beforePin, Cond.instanceMethod yX1_beforePin, Cond.selects RX1 yX1_beforePin yX1_beforePin, Cond.code yX1_beforePin cX1_beforePin 4 (some .int), Cond.fieldLink RX1 15 "TileArray$Fabric" "beforePin" "[I", Cond.methodLink RX4 140 yX4_isNearer, Cond.instanceMethod yX4_isNearer]
def wsX4_routeNet_r5 : List Cond := [Cond.selects RX4 yX4_isNearer yX4_isNearer, Cond.code yX4_isNearer cX4_isNearer 4 (some .boolean), Cond.methodLink RX4 134 yX1_outputWire, Cond.static yX1_outputWire, Cond.code yX1_outputWire cX1_outputWire 1 (some .int), Cond.methodLink RX1 34 yX1_channelOf, Cond.static yX1_channelOf, Cond.code yX1_channelOf cX1_channelOf 3 (some .int), Cond.methodLink RX4 99 yX4_followBack, Cond.instanceMethod yX4_followBack, Cond.selects RX4 yX4_followBack yX4_followBack, Cond.code yX4_followBack cX4_followBack 5 none, Cond.fieldLink RX4 47 "TileArray$Routing" "channelSetting" "[I", Cond.methodLink RX4 144 yX4_settingBack, Cond.instanceMethod yX4_settingBack, Cond.selects RX4 yX4_settingBack yX4_settingBack, Cond.code yX4_settingBack cX4_settingBack 7 (some .int), Cond.methodLink RX4 147 yX1_beforeChannel, Cond.instanceMethod yX1_beforeChannel, Cond.selects RX1 yX1_beforeChannel yX1_beforeChannel, Cond.code yX1_beforeChannel cX1_beforeChannel 5 (some .int), Cond.fieldLink RX1 9 "TileArray$Fabric" "beforeChannel" "[I"]
def wsX4_routeNet : List Cond := .code yX4_routeNet cX4_routeNet 4 (some .boolean) :: ((wsX4_routeNet_r1 ++ (wsX4_routeNet_r2 ++ (wsX4_routeNet_r3 ++ (wsX4_routeNet_r4 ++ wsX4_routeNet_r5)))) ++ wsX40 ++ wsX30 ++ wsX20 ++ wsX70 ++ wsX10)
def wsX4_routeAll_r1 : List Cond := [Cond.fieldLink RX4 30 "TileArray$Routing" "users" "[I", Cond.fieldLink RX4 47 "TileArray$Routing" "channelSetting" "[I", Cond.fieldLink RX4 50 "TileArray$Routing" "pinSetting" "[I", Cond.fieldLink RX4 15 "TileArray$Routing" "nets" "LTileArray$Nets;", Cond.methodLink RX4 53 yJ7_fill_53178, Cond.static yJ7_fill_53178, Cond.initialized RJ7, Cond.code yJ7_fill_53178 cJ7_fill_53178 4 none, Cond.methodLink RX4 72 yX2_sinksOf, Cond.instanceMethod yX2_sinksOf, Cond.selects RX2 yX2_sinksOf yX2_sinksOf, Cond.initialized RX2, Cond.code yX2_sinksOf cX2_sinksOf 2 (some .int), Cond.fieldLink RX2 9 "TileArray$Nets" "start" "[I", Cond.methodLink RX4 77 yX4_routeNet, Cond.instanceMethod yX4_routeNet, Cond.selects RX4 yX4_routeNet yX4_routeNet, Cond.initialized RX4, Cond.code yX4_routeNet cX4_routeNet 4 (some .boolean), Cond.fieldLink RX4 40 "TileArray$Routing" "distance" "[I", Cond.constant RX4 98 (1048576), Cond.fieldLink RX4 43 "TileArray$Routing" "inTree" "[Z", Cond.methodLink RX4 81 yX4_wireOf, Cond.instanceMethod yX4_wireOf]
def wsX4_routeAll_r2 : List Cond := [Cond.selects RX4 yX4_wireOf yX4_wireOf, Cond.code yX4_wireOf cX4_wireOf 2 (some .int), Cond.fieldLink RX4 19 "TileArray$Routing" "placing" "LTileArray$Placing;", Cond.methodLink RX4 102 yX3_siteOf, Cond.instanceMethod yX3_siteOf, Cond.selects RX3 yX3_siteOf yX3_siteOf, Cond.initialized RX3, Cond.code yX3_siteOf cX3_siteOf 2 (some .int), Cond.fieldLink RX3 23 "TileArray$Placing" "tileUnder" "[I", Cond.methodLink RX4 66 yX1_outletOf, Cond.static yX1_outletOf, Cond.initialized RX1, Cond.code yX1_outletOf cX1_outletOf 1 (some .int), Cond.methodLink RX4 84 yX4_startTree, Cond.instanceMethod yX4_startTree, Cond.selects RX4 yX4_startTree yX4_startTree, Cond.code yX4_startTree cX4_startTree 3 none, Cond.fieldLink RX4 37 "TileArray$Routing" "price" "[I", Cond.fieldLink RX4 34 "TileArray$Routing" "history" "[I", Cond.methodLink RX4 88 yX4_spread, Cond.instanceMethod yX4_spread, Cond.selects RX4 yX4_spread yX4_spread, Cond.code yX4_spread cX4_spread 2 none, Cond.constant RX4 111 (1000000)]
def wsX4_routeAll_r3 : List Cond := [Cond.fieldLink RX4 26 "TileArray$Routing" "queue" "LTileArray$WireQueue;", Cond.methodLink RX4 107 yX4_shorten, Cond.instanceMethod yX4_shorten, Cond.selects RX4 yX4_shorten yX4_shorten, Cond.code yX4_shorten cX4_shorten 3 none, Cond.methodLink RX4 125 yX7_add, Cond.instanceMethod yX7_add, Cond.selects RX7 yX7_add yX7_add, Cond.initialized RX7, Cond.code yX7_add cX7_add 2 none, Cond.fieldLink RX7 15 "TileArray$WireQueue" "waits" "[Z", Cond.fieldLink RX7 19 "TileArray$WireQueue" "size" "I", Cond.fieldLink RX7 9 "TileArray$WireQueue" "row" "[I", Cond.fieldLink RX7 23 "TileArray$WireQueue" "first" "I", Cond.methodLink RX4 112 yX7_isEmpty, Cond.instanceMethod yX7_isEmpty, Cond.selects RX7 yX7_isEmpty yX7_isEmpty, Cond.code yX7_isEmpty cX7_isEmpty 1 (some .boolean), Cond.methodLink RX4 115 yX7_take, Cond.instanceMethod yX7_take, Cond.selects RX7 yX7_take yX7_take, Cond.code yX7_take cX7_take 2 (some .int), Cond.methodLink RX4 119 yX4_spreadFrom, Cond.instanceMethod yX4_spreadFrom]
def wsX4_routeAll_r4 : List Cond := [Cond.selects RX4 yX4_spreadFrom yX4_spreadFrom, Cond.code yX4_spreadFrom cX4_spreadFrom 4 none, Cond.fieldLink RX4 9 "TileArray$Routing" "fabric" "LTileArray$Fabric;", Cond.methodLink RX4 122 yX1_channelAfter, Cond.instanceMethod yX1_channelAfter, Cond.selects RX1 yX1_channelAfter yX1_channelAfter, Cond.code yX1_channelAfter cX1_channelAfter 4 (some .int), Cond.fieldLink RX1 21 "TileArray$Fabric" "afterCount" "[I", Cond.fieldLink RX1 18 "TileArray$Fabric" "after" "[I", Cond.methodLink RX4 91 yX2_sinkAt, Cond.instanceMethod yX2_sinkAt, Cond.selects RX2 yX2_sinkAt yX2_sinkAt, Cond.code yX2_sinkAt cX2_sinkAt 4 (some .int), Cond.fieldLink RX2 15 "TileArray$Nets" "sinks" "[I", Cond.methodLink RX4 95 yX4_endOfWay, Cond.instanceMethod yX4_endOfWay, Cond.selects RX4 yX4_endOfWay yX4_endOfWay, Cond.code yX4_endOfWay cX4_endOfWay 2 (some .int), Cond.methodLink RX4 128 yX3_siteOfSink, Cond.instanceMethod yX3_siteOfSink, Cond.selects RX3 yX3_siteOfSink yX3_siteOfSink, Cond.code yX3_siteOfSink cX3_siteOfSink 2 (some .int), Cond.methodLink RX4 131 yX4_switchPin, Cond.instanceMethod yX4_switchPin]
def wsX4_routeAll_r5 : List Cond := [Cond.selects RX4 yX4_switchPin yX4_switchPin, Cond.code yX4_switchPin cX4_switchPin 6 (some .int), Cond.methodLink RX4 137 yX1_beforePin, Cond.instanceMethod yX1_beforePin, Cond.selects RX1 yX1_beforePin yX1_beforePin, Cond.code yX1_beforePin cX1_beforePin 4 (some .int), Cond.fieldLink RX1 15 "TileArray$Fabric" "beforePin" "[I", Cond.methodLink RX4 140 yX4_isNearer, Cond.instanceMethod yX4_isNearer, Cond.selects RX4 yX4_isNearer yX4_isNearer, Cond.code yX4_isNearer cX4_isNearer 4 (some .boolean), Cond.methodLink RX4 134 yX1_outputWire, Cond.static yX1_outputWire, Cond.code yX1_outputWire cX1_outputWire 1 (some .int), Cond.methodLink RX1 34 yX1_channelOf, Cond.static yX1_channelOf, Cond.code yX1_channelOf cX1_channelOf 3 (some .int), Cond.methodLink RX4 99 yX4_followBack, Cond.instanceMethod yX4_followBack, Cond.selects RX4 yX4_followBack yX4_followBack, Cond.code yX4_followBack cX4_followBack 5 none, Cond.methodLink RX4 144 yX4_settingBack, Cond.instanceMethod yX4_settingBack, Cond.selects RX4 yX4_settingBack yX4_settingBack]
def wsX4_routeAll_r6 : List Cond := [Cond.code yX4_settingBack cX4_settingBack 7 (some .int), Cond.methodLink RX4 147 yX1_beforeChannel, Cond.instanceMethod yX1_beforeChannel, Cond.selects RX1 yX1_beforeChannel yX1_beforeChannel, Cond.code yX1_beforeChannel cX1_beforeChannel 5 (some .int), Cond.fieldLink RX1 9 "TileArray$Fabric" "beforeChannel" "[I"]
def wsX4_routeAll : List Cond := .code yX4_routeAll cX4_routeAll 2 (some .boolean) :: ((wsX4_routeAll_r1 ++ (wsX4_routeAll_r2 ++ (wsX4_routeAll_r3 ++ (wsX4_routeAll_r4 ++ (wsX4_routeAll_r5 ++ wsX4_routeAll_r6))))) ++ wsX40 ++ wsX20 ++ wsX30 ++ wsX70 ++ wsX10)
def wsX4_growHistory : List Cond := .code yX4_growHistory cX4_growHistory 3 (some .boolean) :: ([.fieldLink RX4 30 "TileArray$Routing" "users" "[I", .fieldLink RX4 34 "TileArray$Routing" "history" "[I"] ++ wsX40)
def wsX4_route_r1 : List Cond := [Cond.fieldLink RX4 34 "TileArray$Routing" "history" "[I", Cond.methodLink RX4 53 yJ7_fill_53178, Cond.static yJ7_fill_53178, Cond.initialized RJ7, Cond.code yJ7_fill_53178 cJ7_fill_53178 4 none, Cond.methodLink RX4 59 yX4_routeAll, Cond.instanceMethod yX4_routeAll, Cond.selects RX4 yX4_routeAll yX4_routeAll, Cond.initialized RX4, Cond.code yX4_routeAll cX4_routeAll 2 (some .boolean), Cond.fieldLink RX4 30 "TileArray$Routing" "users" "[I", Cond.fieldLink RX4 47 "TileArray$Routing" "channelSetting" "[I", Cond.fieldLink RX4 50 "TileArray$Routing" "pinSetting" "[I", Cond.fieldLink RX4 15 "TileArray$Routing" "nets" "LTileArray$Nets;", Cond.methodLink RX4 72 yX2_sinksOf, Cond.instanceMethod yX2_sinksOf, Cond.selects RX2 yX2_sinksOf yX2_sinksOf, Cond.initialized RX2, Cond.code yX2_sinksOf cX2_sinksOf 2 (some .int), Cond.fieldLink RX2 9 "TileArray$Nets" "start" "[I", Cond.methodLink RX4 77 yX4_routeNet, Cond.instanceMethod yX4_routeNet, Cond.selects RX4 yX4_routeNet yX4_routeNet, Cond.code yX4_routeNet cX4_routeNet 4 (some .boolean)]
def wsX4_route_r2 : List Cond := [Cond.fieldLink RX4 40 "TileArray$Routing" "distance" "[I", Cond.constant RX4 98 (1048576), Cond.fieldLink RX4 43 "TileArray$Routing" "inTree" "[Z", Cond.methodLink RX4 81 yX4_wireOf, Cond.instanceMethod yX4_wireOf, Cond.selects RX4 yX4_wireOf yX4_wireOf, Cond.code yX4_wireOf cX4_wireOf 2 (some .int), Cond.fieldLink RX4 19 "TileArray$Routing" "placing" "LTileArray$Placing;", Cond.methodLink RX4 102 yX3_siteOf, Cond.instanceMethod yX3_siteOf, Cond.selects RX3 yX3_siteOf yX3_siteOf, Cond.initialized RX3, Cond.code yX3_siteOf cX3_siteOf 2 (some .int), Cond.fieldLink RX3 23 "TileArray$Placing" "tileUnder" "[I", Cond.methodLink RX4 66 yX1_outletOf, Cond.static yX1_outletOf, Cond.initialized RX1, Cond.code yX1_outletOf cX1_outletOf 1 (some .int), Cond.methodLink RX4 84 yX4_startTree, Cond.instanceMethod yX4_startTree, Cond.selects RX4 yX4_startTree yX4_startTree, Cond.code yX4_startTree cX4_startTree 3 none, Cond.fieldLink RX4 37 "TileArray$Routing" "price" "[I", Cond.methodLink RX4 88 yX4_spread]
def wsX4_route_r3 : List Cond := [Cond.instanceMethod yX4_spread, Cond.selects RX4 yX4_spread yX4_spread, Cond.code yX4_spread cX4_spread 2 none, Cond.constant RX4 111 (1000000), Cond.fieldLink RX4 26 "TileArray$Routing" "queue" "LTileArray$WireQueue;", Cond.methodLink RX4 107 yX4_shorten, Cond.instanceMethod yX4_shorten, Cond.selects RX4 yX4_shorten yX4_shorten, Cond.code yX4_shorten cX4_shorten 3 none, Cond.methodLink RX4 125 yX7_add, Cond.instanceMethod yX7_add, Cond.selects RX7 yX7_add yX7_add, Cond.initialized RX7, Cond.code yX7_add cX7_add 2 none, Cond.fieldLink RX7 15 "TileArray$WireQueue" "waits" "[Z", Cond.fieldLink RX7 19 "TileArray$WireQueue" "size" "I", Cond.fieldLink RX7 9 "TileArray$WireQueue" "row" "[I", Cond.fieldLink RX7 23 "TileArray$WireQueue" "first" "I", Cond.methodLink RX4 112 yX7_isEmpty, Cond.instanceMethod yX7_isEmpty, Cond.selects RX7 yX7_isEmpty yX7_isEmpty, Cond.code yX7_isEmpty cX7_isEmpty 1 (some .boolean), Cond.methodLink RX4 115 yX7_take, Cond.instanceMethod yX7_take]
def wsX4_route_r4 : List Cond := [Cond.selects RX7 yX7_take yX7_take, Cond.code yX7_take cX7_take 2 (some .int), Cond.methodLink RX4 119 yX4_spreadFrom, Cond.instanceMethod yX4_spreadFrom, Cond.selects RX4 yX4_spreadFrom yX4_spreadFrom, Cond.code yX4_spreadFrom cX4_spreadFrom 4 none, Cond.fieldLink RX4 9 "TileArray$Routing" "fabric" "LTileArray$Fabric;", Cond.methodLink RX4 122 yX1_channelAfter, Cond.instanceMethod yX1_channelAfter, Cond.selects RX1 yX1_channelAfter yX1_channelAfter, Cond.code yX1_channelAfter cX1_channelAfter 4 (some .int), Cond.fieldLink RX1 21 "TileArray$Fabric" "afterCount" "[I", Cond.fieldLink RX1 18 "TileArray$Fabric" "after" "[I", Cond.methodLink RX4 91 yX2_sinkAt, Cond.instanceMethod yX2_sinkAt, Cond.selects RX2 yX2_sinkAt yX2_sinkAt, Cond.code yX2_sinkAt cX2_sinkAt 4 (some .int), Cond.fieldLink RX2 15 "TileArray$Nets" "sinks" "[I", Cond.methodLink RX4 95 yX4_endOfWay, Cond.instanceMethod yX4_endOfWay, Cond.selects RX4 yX4_endOfWay yX4_endOfWay, Cond.code yX4_endOfWay cX4_endOfWay 2 (some .int), Cond.methodLink RX4 128 yX3_siteOfSink, Cond.instanceMethod yX3_siteOfSink]
def wsX4_route_r5 : List Cond := [Cond.selects RX3 yX3_siteOfSink yX3_siteOfSink, Cond.code yX3_siteOfSink cX3_siteOfSink 2 (some .int), Cond.methodLink RX4 131 yX4_switchPin, Cond.instanceMethod yX4_switchPin, Cond.selects RX4 yX4_switchPin yX4_switchPin, Cond.code yX4_switchPin cX4_switchPin 6 (some .int), Cond.methodLink RX4 137 yX1_beforePin, Cond.instanceMethod yX1_beforePin, Cond.selects RX1 yX1_beforePin yX1_beforePin, Cond.code yX1_beforePin cX1_beforePin 4 (some .int), Cond.fieldLink RX1 15 "TileArray$Fabric" "beforePin" "[I", Cond.methodLink RX4 140 yX4_isNearer, Cond.instanceMethod yX4_isNearer, Cond.selects RX4 yX4_isNearer yX4_isNearer, Cond.code yX4_isNearer cX4_isNearer 4 (some .boolean), Cond.methodLink RX4 134 yX1_outputWire, Cond.static yX1_outputWire, Cond.code yX1_outputWire cX1_outputWire 1 (some .int), Cond.methodLink RX1 34 yX1_channelOf, Cond.static yX1_channelOf, Cond.code yX1_channelOf cX1_channelOf 3 (some .int), Cond.methodLink RX4 99 yX4_followBack, Cond.instanceMethod yX4_followBack, Cond.selects RX4 yX4_followBack yX4_followBack]
def wsX4_route_r6 : List Cond := [Cond.code yX4_followBack cX4_followBack 5 none, Cond.methodLink RX4 144 yX4_settingBack, Cond.instanceMethod yX4_settingBack, Cond.selects RX4 yX4_settingBack yX4_settingBack, Cond.code yX4_settingBack cX4_settingBack 7 (some .int), Cond.methodLink RX4 147 yX1_beforeChannel, Cond.instanceMethod yX1_beforeChannel, Cond.selects RX1 yX1_beforeChannel yX1_beforeChannel, Cond.code yX1_beforeChannel cX1_beforeChannel 5 (some .int), Cond.fieldLink RX1 9 "TileArray$Fabric" "beforeChannel" "[I", Cond.methodLink RX4 63 yX4_growHistory, Cond.instanceMethod yX4_growHistory, Cond.selects RX4 yX4_growHistory yX4_growHistory, Cond.code yX4_growHistory cX4_growHistory 3 (some .boolean)]
def wsX4_route : List Cond := .code yX4_route cX4_route 2 (some .int) :: ((wsX4_route_r1 ++ (wsX4_route_r2 ++ (wsX4_route_r3 ++ (wsX4_route_r4 ++ (wsX4_route_r5 ++ wsX4_route_r6))))) ++ wsX40 ++ wsX20 ++ wsX30 ++ wsX70 ++ wsX10)
def wsX4_settingsOf : List Cond := .code yX4_settingsOf cX4_settingsOf 7 (some .long) :: ([.fieldLink RX4 50 "TileArray$Routing" "pinSetting" "[I", .fieldLink RX4 47 "TileArray$Routing" "channelSetting" "[I", .methodLink RX4 66 yX1_outletOf, .static yX1_outletOf, .initialized RX1, .code yX1_outletOf cX1_outletOf 1 (some .int)] ++ wsX40)
def wsX5_init : List Cond := .code yX5_init cX5_init 2 none :: ([.methodLink RX5 3 objectInit, .instanceMethod objectInit, .code objectInit ⟨#[0xb1]⟩ 1 none, .fieldLink RX5 9 "TileArray$Tiles" "fabric" "LTileArray$Fabric;", .arrayClass .long, .fieldLink RX5 15 "TileArray$Tiles" "bits" "[J", .arrayClass .int, .fieldLink RX5 19 "TileArray$Tiles" "gives" "[I", .fieldLink RX5 23 "TileArray$Tiles" "next" "[I", .fieldLink RX5 26 "TileArray$Tiles" "origin" "[I", .fieldLink RX5 29 "TileArray$Tiles" "length" "[I", .methodLink RX5 32 yJ7_fill_53178, .static yJ7_fill_53178, .initialized RJ7, .code yJ7_fill_53178 cJ7_fill_53178 4 none] ++ wsX50)
def wsX5_pinSetting : List Cond := .code yX5_pinSetting cX5_pinSetting 3 (some .int) :: ([])
def wsX5_channelSetting : List Cond := .code yX5_channelSetting cX5_channelSetting 3 (some .int) :: ([])
def wsX5_areLegal : List Cond := .code yX5_areLegal cX5_areLegal 3 (some .boolean) :: ([.constantLong RX5 38 (70368744177664), .methodLink RX5 40 yX5_pinSetting, .static yX5_pinSetting, .initialized RX5, .code yX5_pinSetting cX5_pinSetting 3 (some .int), .methodLink RX5 44 yX5_channelSetting, .static yX5_channelSetting, .code yX5_channelSetting cX5_channelSetting 3 (some .int)])
def wsX5_bitsOf : List Cond := .code yX5_bitsOf cX5_bitsOf 2 (some .long) :: ([.fieldLink RX5 15 "TileArray$Tiles" "bits" "[J"] ++ wsX50)
def wsX5_hasRegister : List Cond := .code yX5_hasRegister cX5_hasRegister 2 (some .boolean) :: ([.methodLink RX5 47 yX5_bitsOf, .instanceMethod yX5_bitsOf, .selects RX5 yX5_bitsOf yX5_bitsOf, .initialized RX5, .code yX5_bitsOf cX5_bitsOf 2 (some .long), .fieldLink RX5 15 "TileArray$Tiles" "bits" "[J"] ++ wsX50)
def wsX5_setBits : List Cond := .code yX5_setBits cX5_setBits 5 none :: ([.fieldLink RX5 15 "TileArray$Tiles" "bits" "[J", .fieldLink RX5 19 "TileArray$Tiles" "gives" "[I", .methodLink RX5 51 yX5_hasRegister, .instanceMethod yX5_hasRegister, .selects RX5 yX5_hasRegister yX5_hasRegister, .initialized RX5, .code yX5_hasRegister cX5_hasRegister 2 (some .boolean), .methodLink RX5 47 yX5_bitsOf, .instanceMethod yX5_bitsOf, .selects RX5 yX5_bitsOf yX5_bitsOf, .code yX5_bitsOf cX5_bitsOf 2 (some .long)] ++ wsX50)
def wsX5_originAt : List Cond := .code yX5_originAt cX5_originAt 1 (some .int) :: ([.methodLink RX5 80 yX1_isChannel, .static yX1_isChannel, .initialized RX1, .code yX1_isChannel cX1_isChannel 1 (some .boolean)])
def wsX5_trace : List Cond := .code yX5_trace cX5_trace 8 none :: ([.fieldLink RX5 9 "TileArray$Tiles" "fabric" "LTileArray$Fabric;", .fieldLink RX5 26 "TileArray$Tiles" "origin" "[I", .fieldLink RX5 29 "TileArray$Tiles" "length" "[I", .methodLink RX5 80 yX1_isChannel, .static yX1_isChannel, .initialized RX1, .code yX1_isChannel cX1_isChannel 1 (some .boolean), .methodLink RX5 47 yX5_bitsOf, .instanceMethod yX5_bitsOf, .selects RX5 yX5_bitsOf yX5_bitsOf, .initialized RX5, .code yX5_bitsOf cX5_bitsOf 2 (some .long), .fieldLink RX5 15 "TileArray$Tiles" "bits" "[J", .methodLink RX5 44 yX5_channelSetting, .static yX5_channelSetting, .code yX5_channelSetting cX5_channelSetting 3 (some .int), .methodLink RX5 83 yX1_beforeChannel, .instanceMethod yX1_beforeChannel, .selects RX1 yX1_beforeChannel yX1_beforeChannel, .code yX1_beforeChannel cX1_beforeChannel 5 (some .int), .fieldLink RX1 9 "TileArray$Fabric" "beforeChannel" "[I", .methodLink RX5 86 yX5_originAt, .static yX5_originAt, .code yX5_originAt cX5_originAt 1 (some .int)] ++ wsX50 ++ wsX10)
def wsX5_retrace_r1 : List Cond := [Cond.fieldLink RX5 15 "TileArray$Tiles" "bits" "[J", Cond.fieldLink RX5 9 "TileArray$Tiles" "fabric" "LTileArray$Fabric;", Cond.methodLink RX5 40 yX5_pinSetting, Cond.static yX5_pinSetting, Cond.initialized RX5, Cond.code yX5_pinSetting cX5_pinSetting 3 (some .int), Cond.methodLink RX5 55 yX1_beforePin, Cond.instanceMethod yX1_beforePin, Cond.selects RX1 yX1_beforePin yX1_beforePin, Cond.initialized RX1, Cond.code yX1_beforePin cX1_beforePin 4 (some .int), Cond.fieldLink RX1 15 "TileArray$Fabric" "beforePin" "[I", Cond.methodLink RX5 61 yX5_trace, Cond.instanceMethod yX5_trace, Cond.selects RX5 yX5_trace yX5_trace, Cond.code yX5_trace cX5_trace 8 none, Cond.fieldLink RX5 26 "TileArray$Tiles" "origin" "[I", Cond.fieldLink RX5 29 "TileArray$Tiles" "length" "[I", Cond.methodLink RX5 80 yX1_isChannel, Cond.static yX1_isChannel, Cond.code yX1_isChannel cX1_isChannel 1 (some .boolean), Cond.methodLink RX5 47 yX5_bitsOf, Cond.instanceMethod yX5_bitsOf, Cond.selects RX5 yX5_bitsOf yX5_bitsOf]
def wsX5_retrace_r2 : List Cond := [Cond.code yX5_bitsOf cX5_bitsOf 2 (some .long), Cond.methodLink RX5 44 yX5_channelSetting, Cond.static yX5_channelSetting, Cond.code yX5_channelSetting cX5_channelSetting 3 (some .int), Cond.methodLink RX5 83 yX1_beforeChannel, Cond.instanceMethod yX1_beforeChannel, Cond.selects RX1 yX1_beforeChannel yX1_beforeChannel, Cond.code yX1_beforeChannel cX1_beforeChannel 5 (some .int), Cond.fieldLink RX1 9 "TileArray$Fabric" "beforeChannel" "[I", Cond.methodLink RX5 86 yX5_originAt, Cond.static yX5_originAt, Cond.code yX5_originAt cX5_originAt 1 (some .int), Cond.methodLink RX5 65 yX1_outputWire, Cond.static yX1_outputWire, Cond.code yX1_outputWire cX1_outputWire 1 (some .int), Cond.methodLink RX1 34 yX1_channelOf, Cond.static yX1_channelOf, Cond.code yX1_channelOf cX1_channelOf 3 (some .int)]
def wsX5_retrace : List Cond := .code yX5_retrace cX5_retrace 4 none :: ((wsX5_retrace_r1 ++ wsX5_retrace_r2) ++ wsX50 ++ wsX10)
def wsX5_originOf : List Cond := .code yX5_originOf cX5_originOf 2 (some .int) :: ([.fieldLink RX5 26 "TileArray$Tiles" "origin" "[I"] ++ wsX50)
def wsX5_lengthOf : List Cond := .code yX5_lengthOf cX5_lengthOf 2 (some .int) :: ([.fieldLink RX5 29 "TileArray$Tiles" "length" "[I"] ++ wsX50)
def wsX5_sumUp : List Cond := .code yX5_sumUp cX5_sumUp 6 (some .int) :: ([.constant RX5 69 (65535), .fieldLink RX5 15 "TileArray$Tiles" "bits" "[J"] ++ wsX50)
def wsX5_restart : List Cond := .code yX5_restart cX5_restart 2 none :: ([.fieldLink RX5 19 "TileArray$Tiles" "gives" "[I", .fieldLink RX5 15 "TileArray$Tiles" "bits" "[J", .methodLink RX5 51 yX5_hasRegister, .instanceMethod yX5_hasRegister, .selects RX5 yX5_hasRegister yX5_hasRegister, .initialized RX5, .code yX5_hasRegister cX5_hasRegister 2 (some .boolean), .methodLink RX5 47 yX5_bitsOf, .instanceMethod yX5_bitsOf, .selects RX5 yX5_bitsOf yX5_bitsOf, .code yX5_bitsOf cX5_bitsOf 2 (some .long)] ++ wsX50)
def wsX5_valueAt : List Cond := .code yX5_valueAt cX5_valueAt 4 (some .int) :: ([.fieldLink RX5 19 "TileArray$Tiles" "gives" "[I", .methodLink RX5 95 yX5_originOf, .instanceMethod yX5_originOf, .selects RX5 yX5_originOf yX5_originOf, .initialized RX5, .code yX5_originOf cX5_originOf 2 (some .int), .fieldLink RX5 26 "TileArray$Tiles" "origin" "[I"] ++ wsX50)
def wsX5_tableGives : List Cond := .code yX5_tableGives cX5_tableGives 5 (some .int) :: ([.fieldLink RX5 15 "TileArray$Tiles" "bits" "[J", .methodLink RX5 73 yX5_valueAt, .instanceMethod yX5_valueAt, .selects RX5 yX5_valueAt yX5_valueAt, .initialized RX5, .code yX5_valueAt cX5_valueAt 4 (some .int), .fieldLink RX5 19 "TileArray$Tiles" "gives" "[I", .methodLink RX5 95 yX5_originOf, .instanceMethod yX5_originOf, .selects RX5 yX5_originOf yX5_originOf, .code yX5_originOf cX5_originOf 2 (some .int), .fieldLink RX5 26 "TileArray$Tiles" "origin" "[I"] ++ wsX50)
def wsX5_stepRegisters_r1 : List Cond := [Cond.fieldLink RX5 23 "TileArray$Tiles" "next" "[I", Cond.fieldLink RX5 19 "TileArray$Tiles" "gives" "[I", Cond.methodLink RX5 89 arraycopyName, Cond.native arraycopyName, Cond.static arraycopyName, Cond.initialized "java/lang/System", Cond.methodLink RX5 51 yX5_hasRegister, Cond.instanceMethod yX5_hasRegister, Cond.selects RX5 yX5_hasRegister yX5_hasRegister, Cond.initialized RX5, Cond.code yX5_hasRegister cX5_hasRegister 2 (some .boolean), Cond.methodLink RX5 47 yX5_bitsOf, Cond.instanceMethod yX5_bitsOf, Cond.selects RX5 yX5_bitsOf yX5_bitsOf, Cond.code yX5_bitsOf cX5_bitsOf 2 (some .long), Cond.fieldLink RX5 15 "TileArray$Tiles" "bits" "[J", Cond.methodLink RX5 70 yX5_tableGives, Cond.instanceMethod yX5_tableGives, Cond.selects RX5 yX5_tableGives yX5_tableGives, Cond.code yX5_tableGives cX5_tableGives 5 (some .int), Cond.methodLink RX5 73 yX5_valueAt, Cond.instanceMethod yX5_valueAt, Cond.selects RX5 yX5_valueAt yX5_valueAt, Cond.code yX5_valueAt cX5_valueAt 4 (some .int)]
def wsX5_stepRegisters_r2 : List Cond := [Cond.methodLink RX5 95 yX5_originOf, Cond.instanceMethod yX5_originOf, Cond.selects RX5 yX5_originOf yX5_originOf, Cond.code yX5_originOf cX5_originOf 2 (some .int), Cond.fieldLink RX5 26 "TileArray$Tiles" "origin" "[I"]
def wsX5_stepRegisters : List Cond := .code yX5_stepRegisters cX5_stepRegisters 3 none :: ((wsX5_stepRegisters_r1 ++ wsX5_stepRegisters_r2) ++ wsX50)
def wsX5_step_r1 : List Cond := [Cond.fieldLink RX5 19 "TileArray$Tiles" "gives" "[I", Cond.methodLink RX5 51 yX5_hasRegister, Cond.instanceMethod yX5_hasRegister, Cond.selects RX5 yX5_hasRegister yX5_hasRegister, Cond.initialized RX5, Cond.code yX5_hasRegister cX5_hasRegister 2 (some .boolean), Cond.methodLink RX5 47 yX5_bitsOf, Cond.instanceMethod yX5_bitsOf, Cond.selects RX5 yX5_bitsOf yX5_bitsOf, Cond.code yX5_bitsOf cX5_bitsOf 2 (some .long), Cond.fieldLink RX5 15 "TileArray$Tiles" "bits" "[J", Cond.methodLink RX5 70 yX5_tableGives, Cond.instanceMethod yX5_tableGives, Cond.selects RX5 yX5_tableGives yX5_tableGives, Cond.code yX5_tableGives cX5_tableGives 5 (some .int), Cond.methodLink RX5 73 yX5_valueAt, Cond.instanceMethod yX5_valueAt, Cond.selects RX5 yX5_valueAt yX5_valueAt, Cond.code yX5_valueAt cX5_valueAt 4 (some .int), Cond.methodLink RX5 95 yX5_originOf, Cond.instanceMethod yX5_originOf, Cond.selects RX5 yX5_originOf yX5_originOf, Cond.code yX5_originOf cX5_originOf 2 (some .int), Cond.fieldLink RX5 26 "TileArray$Tiles" "origin" "[I"]
def wsX5_step_r2 : List Cond := [Cond.methodLink RX5 76 yX5_stepRegisters, Cond.instanceMethod yX5_stepRegisters, Cond.selects RX5 yX5_stepRegisters yX5_stepRegisters, Cond.code yX5_stepRegisters cX5_stepRegisters 3 none, Cond.fieldLink RX5 23 "TileArray$Tiles" "next" "[I", Cond.methodLink RX5 89 arraycopyName, Cond.native arraycopyName, Cond.static arraycopyName, Cond.initialized "java/lang/System"]
def wsX5_step : List Cond := .code yX5_step cX5_step 4 (some .int) :: ((wsX5_step_r1 ++ wsX5_step_r2) ++ wsX50)
def wsX6_init : List Cond := .code yX6_init cX6_init 2 none :: ([.methodLink RX6 3 objectInit, .instanceMethod objectInit, .code objectInit ⟨#[0xb1]⟩ 1 none, .fieldLink RX6 9 "TileArray$Timing" "tiles" "LTileArray$Tiles;", .arrayClass .double, .fieldLink RX6 15 "TileArray$Timing" "outletAt" "[D", .arrayClass .boolean, .fieldLink RX6 19 "TileArray$Timing" "known" "[Z"] ++ wsX60)
def wsX6_pinsAreKnown : List Cond := .code yX6_pinsAreKnown cX6_pinsAreKnown 4 (some .boolean) :: ([.fieldLink RX6 9 "TileArray$Timing" "tiles" "LTileArray$Tiles;", .fieldLink RX6 19 "TileArray$Timing" "known" "[Z", .methodLink RX6 55 yX5_originOf, .instanceMethod yX5_originOf, .selects RX5 yX5_originOf yX5_originOf, .initialized RX5, .code yX5_originOf cX5_originOf 2 (some .int), .fieldLink RX5 26 "TileArray$Tiles" "origin" "[I"] ++ wsX60 ++ wsX50)
def wsX6_arrival : List Cond := .code yX6_arrival cX6_arrival 5 (some .double) :: ([.fieldLink RX6 9 "TileArray$Timing" "tiles" "LTileArray$Tiles;", .constantDouble RX6 27 (13830554455654793216), .fieldLink RX6 15 "TileArray$Timing" "outletAt" "[D", .constantDouble RX6 59 (4600427019358961664), .methodLink RX6 55 yX5_originOf, .instanceMethod yX5_originOf, .selects RX5 yX5_originOf yX5_originOf, .initialized RX5, .code yX5_originOf cX5_originOf 2 (some .int), .fieldLink RX5 26 "TileArray$Tiles" "origin" "[I", .methodLink RX6 61 yX5_lengthOf, .instanceMethod yX5_lengthOf, .selects RX5 yX5_lengthOf yX5_lengthOf, .code yX5_lengthOf cX5_lengthOf 2 (some .int), .fieldLink RX5 29 "TileArray$Tiles" "length" "[I"] ++ wsX60 ++ wsX50)
def wsX6_later : List Cond := .code yX6_later cX6_later 4 (some .double) :: ([])
def wsX6_latestPin : List Cond := .code yX6_latestPin cX6_latestPin 5 (some .double) :: ([.constantDouble RX6 27 (13830554455654793216), .methodLink RX6 47 yX6_arrival, .instanceMethod yX6_arrival, .selects RX6 yX6_arrival yX6_arrival, .initialized RX6, .code yX6_arrival cX6_arrival 5 (some .double), .fieldLink RX6 9 "TileArray$Timing" "tiles" "LTileArray$Tiles;", .fieldLink RX6 15 "TileArray$Timing" "outletAt" "[D", .constantDouble RX6 59 (4600427019358961664), .methodLink RX6 55 yX5_originOf, .instanceMethod yX5_originOf, .selects RX5 yX5_originOf yX5_originOf, .initialized RX5, .code yX5_originOf cX5_originOf 2 (some .int), .fieldLink RX5 26 "TileArray$Tiles" "origin" "[I", .methodLink RX6 61 yX5_lengthOf, .instanceMethod yX5_lengthOf, .selects RX5 yX5_lengthOf yX5_lengthOf, .code yX5_lengthOf cX5_lengthOf 2 (some .int), .fieldLink RX5 29 "TileArray$Tiles" "length" "[I", .methodLink RX6 43 yX6_later, .static yX6_later, .code yX6_later cX6_later 4 (some .double)] ++ wsX60 ++ wsX50)
def wsX6_timeOutlets_r1 : List Cond := [Cond.fieldLink RX6 19 "TileArray$Timing" "known" "[Z", Cond.fieldLink RX6 9 "TileArray$Timing" "tiles" "LTileArray$Tiles;", Cond.fieldLink RX6 15 "TileArray$Timing" "outletAt" "[D", Cond.constantDouble RX6 50 (4602678819172646912), Cond.constantDouble RX6 39 (4603804719079489536), Cond.methodLink RX6 33 yX5_hasRegister, Cond.instanceMethod yX5_hasRegister, Cond.selects RX5 yX5_hasRegister yX5_hasRegister, Cond.initialized RX5, Cond.code yX5_hasRegister cX5_hasRegister 2 (some .boolean), Cond.methodLink RX5 47 yX5_bitsOf, Cond.instanceMethod yX5_bitsOf, Cond.selects RX5 yX5_bitsOf yX5_bitsOf, Cond.code yX5_bitsOf cX5_bitsOf 2 (some .long), Cond.fieldLink RX5 15 "TileArray$Tiles" "bits" "[J", Cond.methodLink RX6 52 yX6_pinsAreKnown, Cond.instanceMethod yX6_pinsAreKnown, Cond.selects RX6 yX6_pinsAreKnown yX6_pinsAreKnown, Cond.initialized RX6, Cond.code yX6_pinsAreKnown cX6_pinsAreKnown 4 (some .boolean), Cond.methodLink RX6 55 yX5_originOf, Cond.instanceMethod yX5_originOf, Cond.selects RX5 yX5_originOf yX5_originOf, Cond.code yX5_originOf cX5_originOf 2 (some .int)]
def wsX6_timeOutlets_r2 : List Cond := [Cond.fieldLink RX5 26 "TileArray$Tiles" "origin" "[I", Cond.methodLink RX6 29 yX6_latestPin, Cond.instanceMethod yX6_latestPin, Cond.selects RX6 yX6_latestPin yX6_latestPin, Cond.code yX6_latestPin cX6_latestPin 5 (some .double), Cond.constantDouble RX6 27 (13830554455654793216), Cond.methodLink RX6 47 yX6_arrival, Cond.instanceMethod yX6_arrival, Cond.selects RX6 yX6_arrival yX6_arrival, Cond.code yX6_arrival cX6_arrival 5 (some .double), Cond.constantDouble RX6 59 (4600427019358961664), Cond.methodLink RX6 61 yX5_lengthOf, Cond.instanceMethod yX5_lengthOf, Cond.selects RX5 yX5_lengthOf yX5_lengthOf, Cond.code yX5_lengthOf cX5_lengthOf 2 (some .int), Cond.fieldLink RX5 29 "TileArray$Tiles" "length" "[I", Cond.methodLink RX6 43 yX6_later, Cond.static yX6_later, Cond.code yX6_later cX6_later 4 (some .double)]
def wsX6_timeOutlets : List Cond := .code yX6_timeOutlets cX6_timeOutlets 4 (some .boolean) :: ((wsX6_timeOutlets_r1 ++ wsX6_timeOutlets_r2) ++ wsX60 ++ wsX50)
def wsX6_longestWay_r1 : List Cond := [Cond.constantDouble RX6 27 (13830554455654793216), Cond.fieldLink RX6 9 "TileArray$Timing" "tiles" "LTileArray$Tiles;", Cond.constantDouble RX6 39 (4603804719079489536), Cond.constantDouble RX6 41 (4598175219545276416), Cond.methodLink RX6 23 yX6_timeOutlets, Cond.instanceMethod yX6_timeOutlets, Cond.selects RX6 yX6_timeOutlets yX6_timeOutlets, Cond.initialized RX6, Cond.code yX6_timeOutlets cX6_timeOutlets 4 (some .boolean), Cond.fieldLink RX6 19 "TileArray$Timing" "known" "[Z", Cond.fieldLink RX6 15 "TileArray$Timing" "outletAt" "[D", Cond.constantDouble RX6 50 (4602678819172646912), Cond.methodLink RX6 33 yX5_hasRegister, Cond.instanceMethod yX5_hasRegister, Cond.selects RX5 yX5_hasRegister yX5_hasRegister, Cond.initialized RX5, Cond.code yX5_hasRegister cX5_hasRegister 2 (some .boolean), Cond.methodLink RX5 47 yX5_bitsOf, Cond.instanceMethod yX5_bitsOf, Cond.selects RX5 yX5_bitsOf yX5_bitsOf, Cond.code yX5_bitsOf cX5_bitsOf 2 (some .long), Cond.fieldLink RX5 15 "TileArray$Tiles" "bits" "[J", Cond.methodLink RX6 52 yX6_pinsAreKnown, Cond.instanceMethod yX6_pinsAreKnown]
def wsX6_longestWay_r2 : List Cond := [Cond.selects RX6 yX6_pinsAreKnown yX6_pinsAreKnown, Cond.code yX6_pinsAreKnown cX6_pinsAreKnown 4 (some .boolean), Cond.methodLink RX6 55 yX5_originOf, Cond.instanceMethod yX5_originOf, Cond.selects RX5 yX5_originOf yX5_originOf, Cond.code yX5_originOf cX5_originOf 2 (some .int), Cond.fieldLink RX5 26 "TileArray$Tiles" "origin" "[I", Cond.methodLink RX6 29 yX6_latestPin, Cond.instanceMethod yX6_latestPin, Cond.selects RX6 yX6_latestPin yX6_latestPin, Cond.code yX6_latestPin cX6_latestPin 5 (some .double), Cond.methodLink RX6 47 yX6_arrival, Cond.instanceMethod yX6_arrival, Cond.selects RX6 yX6_arrival yX6_arrival, Cond.code yX6_arrival cX6_arrival 5 (some .double), Cond.constantDouble RX6 59 (4600427019358961664), Cond.methodLink RX6 61 yX5_lengthOf, Cond.instanceMethod yX5_lengthOf, Cond.selects RX5 yX5_lengthOf yX5_lengthOf, Cond.code yX5_lengthOf cX5_lengthOf 2 (some .int), Cond.fieldLink RX5 29 "TileArray$Tiles" "length" "[I", Cond.methodLink RX6 43 yX6_later, Cond.static yX6_later, Cond.code yX6_later cX6_later 4 (some .double)]
def wsX6_longestWay : List Cond := .code yX6_longestWay cX6_longestWay 6 (some .double) :: ((wsX6_longestWay_r1 ++ wsX6_longestWay_r2) ++ wsX60 ++ wsX50)
def wsX8_init_r1 : List Cond := [Cond.methodLink RX8 3 objectInit, Cond.instanceMethod objectInit, Cond.code objectInit ⟨#[0xb1]⟩ 1 none, Cond.classLink RX8 9 RX1, Cond.instantiable RX1 4, Cond.initialized RX1, Cond.classLink RX8 12 RX0, Cond.instantiable RX0 11, Cond.initialized RX0, Cond.fieldLink RX8 15 "TileArray" "circuit" "LTileArray$Circuit;", Cond.classLink RX8 19 RX2, Cond.instantiable RX2 2, Cond.initialized RX2, Cond.fieldLink RX8 22 "TileArray" "nets" "LTileArray$Nets;", Cond.classLink RX8 26 RX3, Cond.instantiable RX3 4, Cond.initialized RX3, Cond.fieldLink RX8 31 "TileArray" "placing" "LTileArray$Placing;", Cond.classLink RX8 35 RX4, Cond.instantiable RX4 11, Cond.initialized RX4, Cond.fieldLink RX8 40 "TileArray" "routing" "LTileArray$Routing;", Cond.classLink RX8 44 RX5, Cond.instantiable RX5 6]
def wsX8_init_r2 : List Cond := [Cond.initialized RX5, Cond.fieldLink RX8 49 "TileArray" "tiles" "LTileArray$Tiles;", Cond.classLink RX8 53 RX6, Cond.instantiable RX6 3, Cond.initialized RX6, Cond.fieldLink RX8 58 "TileArray" "timing" "LTileArray$Timing;", Cond.arrayClass .int, Cond.fieldLink RX8 62 "TileArray" "builtOn" "[I", Cond.fieldLink RX8 72 "TileArray" "builtSpans" "I", Cond.methodLink RX8 11 yX1_init, Cond.instanceMethod yX1_init, Cond.code yX1_init cX1_init 2 none, Cond.methodLink RX1 3 objectInit, Cond.fieldLink RX1 9 "TileArray$Fabric" "beforeChannel" "[I", Cond.fieldLink RX1 15 "TileArray$Fabric" "beforePin" "[I", Cond.fieldLink RX1 18 "TileArray$Fabric" "after" "[I", Cond.fieldLink RX1 21 "TileArray$Fabric" "afterCount" "[I", Cond.methodLink RX1 24 yJ7_fill_53178, Cond.static yJ7_fill_53178, Cond.initialized RJ7, Cond.code yJ7_fill_53178 cJ7_fill_53178 4 none, Cond.methodLink RX1 30 yX1_laySwitches, Cond.instanceMethod yX1_laySwitches, Cond.selects RX1 yX1_laySwitches yX1_laySwitches]
def wsX8_init_r3 : List Cond := [Cond.code yX1_laySwitches cX1_laySwitches 5 none, Cond.methodLink RX1 38 yX1_outletOf, Cond.static yX1_outletOf, Cond.code yX1_outletOf cX1_outletOf 1 (some .int), Cond.methodLink RX1 42 yX1_wireInto, Cond.static yX1_wireInto, Cond.code yX1_wireInto cX1_wireInto 6 (some .int), Cond.fieldLink RX1 52 "TileArray$Fabric" "ROW_STEP" "[I", Cond.fieldLink RX1 55 "TileArray$Fabric" "COLUMN_STEP" "[I", Cond.methodLink RX1 34 yX1_channelOf, Cond.static yX1_channelOf, Cond.code yX1_channelOf cX1_channelOf 3 (some .int), Cond.methodLink RX1 45 yX1_layChannel, Cond.instanceMethod yX1_layChannel, Cond.selects RX1 yX1_layChannel yX1_layChannel, Cond.code yX1_layChannel cX1_layChannel 7 none, Cond.methodLink RX1 49 yX1_laySwitch, Cond.instanceMethod yX1_laySwitch, Cond.selects RX1 yX1_laySwitch yX1_laySwitch, Cond.code yX1_laySwitch cX1_laySwitch 4 none, Cond.methodLink RX8 14 yX0_init, Cond.instanceMethod yX0_init, Cond.code yX0_init cX0_init 1 none, Cond.methodLink RX0 3 objectInit]
def wsX8_init_r4 : List Cond := [Cond.fieldLink RX0 9 "TileArray$Circuit" "table" "[I", Cond.arrayClass .boolean, Cond.fieldLink RX0 15 "TileArray$Circuit" "register" "[Z", Cond.fieldLink RX0 19 "TileArray$Circuit" "first" "[I", Cond.fieldLink RX0 22 "TileArray$Circuit" "fixedTo" "[I", Cond.fieldLink RX0 25 "TileArray$Circuit" "sourceOfSink" "[I", Cond.fieldLink RX0 28 "TileArray$Circuit" "value" "[I", Cond.fieldLink RX0 31 "TileArray$Circuit" "next" "[I", Cond.fieldLink RX0 34 "TileArray$Circuit" "order" "[I", Cond.fieldLink RX0 37 "TileArray$Circuit" "ordered" "[Z", Cond.methodLink RX0 40 yJ7_fill_53178, Cond.methodLink RX8 21 yX2_init, Cond.instanceMethod yX2_init, Cond.code yX2_init cX2_init 1 none, Cond.methodLink RX2 3 objectInit, Cond.fieldLink RX2 9 "TileArray$Nets" "start" "[I", Cond.fieldLink RX2 15 "TileArray$Nets" "sinks" "[I", Cond.methodLink RX8 28 yX3_init, Cond.instanceMethod yX3_init, Cond.code yX3_init cX3_init 3 none, Cond.methodLink RX3 3 objectInit, Cond.fieldLink RX3 9 "TileArray$Placing" "circuit" "LTileArray$Circuit;", Cond.fieldLink RX3 15 "TileArray$Placing" "nets" "LTileArray$Nets;", Cond.fieldLink RX3 19 "TileArray$Placing" "cellOn" "[I"]
def wsX8_init_r5 : List Cond := [Cond.fieldLink RX3 23 "TileArray$Placing" "tileUnder" "[I", Cond.methodLink RX8 37 yX4_init, Cond.instanceMethod yX4_init, Cond.code yX4_init cX4_init 4 none, Cond.methodLink RX4 3 objectInit, Cond.fieldLink RX4 9 "TileArray$Routing" "fabric" "LTileArray$Fabric;", Cond.fieldLink RX4 15 "TileArray$Routing" "nets" "LTileArray$Nets;", Cond.fieldLink RX4 19 "TileArray$Routing" "placing" "LTileArray$Placing;", Cond.classLink RX4 23 RX7, Cond.instantiable RX7 4, Cond.initialized RX7, Cond.fieldLink RX4 26 "TileArray$Routing" "queue" "LTileArray$WireQueue;", Cond.fieldLink RX4 30 "TileArray$Routing" "users" "[I", Cond.fieldLink RX4 34 "TileArray$Routing" "history" "[I", Cond.fieldLink RX4 37 "TileArray$Routing" "price" "[I", Cond.fieldLink RX4 40 "TileArray$Routing" "distance" "[I", Cond.fieldLink RX4 43 "TileArray$Routing" "inTree" "[Z", Cond.fieldLink RX4 47 "TileArray$Routing" "channelSetting" "[I", Cond.fieldLink RX4 50 "TileArray$Routing" "pinSetting" "[I", Cond.methodLink RX4 25 yX7_init, Cond.instanceMethod yX7_init, Cond.code yX7_init cX7_init 1 none, Cond.methodLink RX7 3 objectInit, Cond.fieldLink RX7 9 "TileArray$WireQueue" "row" "[I"]
def wsX8_init_r6 : List Cond := [Cond.fieldLink RX7 15 "TileArray$WireQueue" "waits" "[Z", Cond.methodLink RX8 46 yX5_init, Cond.instanceMethod yX5_init, Cond.code yX5_init cX5_init 2 none, Cond.methodLink RX5 3 objectInit, Cond.fieldLink RX5 9 "TileArray$Tiles" "fabric" "LTileArray$Fabric;", Cond.arrayClass .long, Cond.fieldLink RX5 15 "TileArray$Tiles" "bits" "[J", Cond.fieldLink RX5 19 "TileArray$Tiles" "gives" "[I", Cond.fieldLink RX5 23 "TileArray$Tiles" "next" "[I", Cond.fieldLink RX5 26 "TileArray$Tiles" "origin" "[I", Cond.fieldLink RX5 29 "TileArray$Tiles" "length" "[I", Cond.methodLink RX5 32 yJ7_fill_53178, Cond.methodLink RX8 55 yX6_init, Cond.instanceMethod yX6_init, Cond.code yX6_init cX6_init 2 none, Cond.methodLink RX6 3 objectInit, Cond.fieldLink RX6 9 "TileArray$Timing" "tiles" "LTileArray$Tiles;", Cond.arrayClass .double, Cond.fieldLink RX6 15 "TileArray$Timing" "outletAt" "[D", Cond.fieldLink RX6 19 "TileArray$Timing" "known" "[Z", Cond.methodLink RX8 66 yJ7_fill_53178]
def wsX8_init : List Cond := .code yX8_init cX8_init 2 none :: ((wsX8_init_r1 ++ (wsX8_init_r2 ++ (wsX8_init_r3 ++ (wsX8_init_r4 ++ (wsX8_init_r5 ++ wsX8_init_r6))))) ++ wsX10 ++ wsX00 ++ wsX80 ++ wsX20 ++ wsX30 ++ wsX40 ++ wsX50 ++ wsX60 ++ wsX70)
def wsX8_cell : List Cond := .code yX8_cell cX8_cell 4 (some .int) :: ([.fieldLink RX8 15 "TileArray" "circuit" "LTileArray$Circuit;", .methodLink RX8 76 yX0_addCell, .instanceMethod yX0_addCell, .selects RX0 yX0_addCell yX0_addCell, .initialized RX0, .code yX0_addCell cX0_addCell 5 (some .int), .fieldLink RX0 46 "TileArray$Circuit" "size" "I", .fieldLink RX0 9 "TileArray$Circuit" "table" "[I", .fieldLink RX0 15 "TileArray$Circuit" "register" "[Z", .fieldLink RX0 19 "TileArray$Circuit" "first" "[I", .fieldLink RX0 28 "TileArray$Circuit" "value" "[I"] ++ wsX80 ++ wsX00)
def wsX8_connect : List Cond := .code yX8_connect cX8_connect 4 (some .boolean) :: ([.fieldLink RX8 15 "TileArray" "circuit" "LTileArray$Circuit;", .methodLink RX8 80 yX0_hasCell, .instanceMethod yX0_hasCell, .selects RX0 yX0_hasCell yX0_hasCell, .initialized RX0, .code yX0_hasCell cX0_hasCell 2 (some .boolean), .fieldLink RX0 46 "TileArray$Circuit" "size" "I", .methodLink RX8 84 yX0_setSource, .instanceMethod yX0_setSource, .selects RX0 yX0_setSource yX0_setSource, .code yX0_setSource cX0_setSource 4 (some .boolean), .fieldLink RX0 25 "TileArray$Circuit" "sourceOfSink" "[I", .methodLink RX0 50 yX0_hasCell, .methodLink RX0 54 yX0_isInput, .static yX0_isInput, .code yX0_isInput cX0_isInput 1 (some .boolean)] ++ wsX80 ++ wsX00)
def wsX8_output : List Cond := .code yX8_output cX8_output 3 (some .boolean) :: ([.fieldLink RX8 15 "TileArray" "circuit" "LTileArray$Circuit;", .methodLink RX8 84 yX0_setSource, .instanceMethod yX0_setSource, .selects RX0 yX0_setSource yX0_setSource, .initialized RX0, .code yX0_setSource cX0_setSource 4 (some .boolean), .fieldLink RX0 25 "TileArray$Circuit" "sourceOfSink" "[I", .methodLink RX0 50 yX0_hasCell, .instanceMethod yX0_hasCell, .selects RX0 yX0_hasCell yX0_hasCell, .code yX0_hasCell cX0_hasCell 2 (some .boolean), .fieldLink RX0 46 "TileArray$Circuit" "size" "I", .methodLink RX0 54 yX0_isInput, .static yX0_isInput, .code yX0_isInput cX0_isInput 1 (some .boolean)] ++ wsX80 ++ wsX00)
def wsX8_fix : List Cond := .code yX8_fix cX8_fix 3 (some .boolean) :: ([.fieldLink RX8 15 "TileArray" "circuit" "LTileArray$Circuit;", .methodLink RX8 88 yX0_setFixed, .instanceMethod yX0_setFixed, .selects RX0 yX0_setFixed yX0_setFixed, .initialized RX0, .code yX0_setFixed cX0_setFixed 4 (some .boolean), .fieldLink RX0 46 "TileArray$Circuit" "size" "I", .fieldLink RX0 22 "TileArray$Circuit" "fixedTo" "[I", .methodLink RX0 50 yX0_hasCell, .instanceMethod yX0_hasCell, .selects RX0 yX0_hasCell yX0_hasCell, .code yX0_hasCell cX0_hasCell 2 (some .boolean)] ++ wsX80 ++ wsX00)
def wsX8_keepBuilding_r1 : List Cond := [Cond.fieldLink RX8 62 "TileArray" "builtOn" "[I", Cond.fieldLink RX8 15 "TileArray" "circuit" "LTileArray$Circuit;", Cond.fieldLink RX8 31 "TileArray" "placing" "LTileArray$Placing;", Cond.fieldLink RX8 72 "TileArray" "builtSpans" "I", Cond.fieldLink RX8 49 "TileArray" "tiles" "LTileArray$Tiles;", Cond.fieldLink RX8 40 "TileArray" "routing" "LTileArray$Routing;", Cond.methodLink RX8 80 yX0_hasCell, Cond.instanceMethod yX0_hasCell, Cond.selects RX0 yX0_hasCell yX0_hasCell, Cond.initialized RX0, Cond.code yX0_hasCell cX0_hasCell 2 (some .boolean), Cond.fieldLink RX0 46 "TileArray$Circuit" "size" "I", Cond.methodLink RX8 156 yX3_siteOf, Cond.instanceMethod yX3_siteOf, Cond.selects RX3 yX3_siteOf yX3_siteOf, Cond.initialized RX3, Cond.code yX3_siteOf cX3_siteOf 2 (some .int), Cond.fieldLink RX3 23 "TileArray$Placing" "tileUnder" "[I", Cond.methodLink RX8 159 yX3_cellAt, Cond.instanceMethod yX3_cellAt, Cond.selects RX3 yX3_cellAt yX3_cellAt, Cond.code yX3_cellAt cX3_cellAt 2 (some .int), Cond.fieldLink RX3 19 "TileArray$Placing" "cellOn" "[I", Cond.methodLink RX8 162 yX0_settingsOf]
def wsX8_keepBuilding_r2 : List Cond := [Cond.instanceMethod yX0_settingsOf, Cond.selects RX0 yX0_settingsOf yX0_settingsOf, Cond.code yX0_settingsOf cX0_settingsOf 3 (some .long), Cond.fieldLink RX0 15 "TileArray$Circuit" "register" "[Z", Cond.fieldLink RX0 9 "TileArray$Circuit" "table" "[I", Cond.fieldLink RX0 19 "TileArray$Circuit" "first" "[I", Cond.methodLink RX0 50 yX0_hasCell, Cond.methodLink RX8 165 yX4_settingsOf, Cond.instanceMethod yX4_settingsOf, Cond.selects RX4 yX4_settingsOf yX4_settingsOf, Cond.initialized RX4, Cond.code yX4_settingsOf cX4_settingsOf 7 (some .long), Cond.fieldLink RX4 50 "TileArray$Routing" "pinSetting" "[I", Cond.fieldLink RX4 47 "TileArray$Routing" "channelSetting" "[I", Cond.methodLink RX4 66 yX1_outletOf, Cond.static yX1_outletOf, Cond.initialized RX1, Cond.code yX1_outletOf cX1_outletOf 1 (some .int), Cond.methodLink RX8 121 yX5_setBits, Cond.instanceMethod yX5_setBits, Cond.selects RX5 yX5_setBits yX5_setBits, Cond.initialized RX5, Cond.code yX5_setBits cX5_setBits 5 none, Cond.fieldLink RX5 15 "TileArray$Tiles" "bits" "[J"]
def wsX8_keepBuilding_r3 : List Cond := [Cond.fieldLink RX5 19 "TileArray$Tiles" "gives" "[I", Cond.methodLink RX5 51 yX5_hasRegister, Cond.instanceMethod yX5_hasRegister, Cond.selects RX5 yX5_hasRegister yX5_hasRegister, Cond.code yX5_hasRegister cX5_hasRegister 2 (some .boolean), Cond.methodLink RX5 47 yX5_bitsOf, Cond.instanceMethod yX5_bitsOf, Cond.selects RX5 yX5_bitsOf yX5_bitsOf, Cond.code yX5_bitsOf cX5_bitsOf 2 (some .long), Cond.methodLink RX8 125 yX5_retrace, Cond.instanceMethod yX5_retrace, Cond.selects RX5 yX5_retrace yX5_retrace, Cond.code yX5_retrace cX5_retrace 4 none, Cond.fieldLink RX5 9 "TileArray$Tiles" "fabric" "LTileArray$Fabric;", Cond.methodLink RX5 40 yX5_pinSetting, Cond.static yX5_pinSetting, Cond.code yX5_pinSetting cX5_pinSetting 3 (some .int), Cond.methodLink RX5 55 yX1_beforePin, Cond.instanceMethod yX1_beforePin, Cond.selects RX1 yX1_beforePin yX1_beforePin, Cond.code yX1_beforePin cX1_beforePin 4 (some .int), Cond.fieldLink RX1 15 "TileArray$Fabric" "beforePin" "[I", Cond.methodLink RX5 61 yX5_trace, Cond.instanceMethod yX5_trace]
def wsX8_keepBuilding_r4 : List Cond := [Cond.selects RX5 yX5_trace yX5_trace, Cond.code yX5_trace cX5_trace 8 none, Cond.fieldLink RX5 26 "TileArray$Tiles" "origin" "[I", Cond.fieldLink RX5 29 "TileArray$Tiles" "length" "[I", Cond.methodLink RX5 80 yX1_isChannel, Cond.static yX1_isChannel, Cond.code yX1_isChannel cX1_isChannel 1 (some .boolean), Cond.methodLink RX5 44 yX5_channelSetting, Cond.static yX5_channelSetting, Cond.code yX5_channelSetting cX5_channelSetting 3 (some .int), Cond.methodLink RX5 83 yX1_beforeChannel, Cond.instanceMethod yX1_beforeChannel, Cond.selects RX1 yX1_beforeChannel yX1_beforeChannel, Cond.code yX1_beforeChannel cX1_beforeChannel 5 (some .int), Cond.fieldLink RX1 9 "TileArray$Fabric" "beforeChannel" "[I", Cond.methodLink RX5 86 yX5_originAt, Cond.static yX5_originAt, Cond.code yX5_originAt cX5_originAt 1 (some .int), Cond.methodLink RX5 65 yX1_outputWire, Cond.static yX1_outputWire, Cond.code yX1_outputWire cX1_outputWire 1 (some .int), Cond.methodLink RX1 34 yX1_channelOf, Cond.static yX1_channelOf, Cond.code yX1_channelOf cX1_channelOf 3 (some .int)]
def wsX8_keepBuilding : List Cond := .code yX8_keepBuilding cX8_keepBuilding 5 none :: ((wsX8_keepBuilding_r1 ++ (wsX8_keepBuilding_r2 ++ (wsX8_keepBuilding_r3 ++ wsX8_keepBuilding_r4))) ++ wsX80 ++ wsX00 ++ wsX30 ++ wsX40 ++ wsX50 ++ wsX10)
def wsX8_build_r1 : List Cond := [Cond.fieldLink RX8 15 "TileArray" "circuit" "LTileArray$Circuit;", Cond.fieldLink RX8 22 "TileArray" "nets" "LTileArray$Nets;", Cond.fieldLink RX8 31 "TileArray" "placing" "LTileArray$Placing;", Cond.fieldLink RX8 40 "TileArray" "routing" "LTileArray$Routing;", Cond.methodLink RX8 91 yX0_size, Cond.instanceMethod yX0_size, Cond.selects RX0 yX0_size yX0_size, Cond.initialized RX0, Cond.code yX0_size cX0_size 1 (some .int), Cond.fieldLink RX0 46 "TileArray$Circuit" "size" "I", Cond.methodLink RX8 95 yX0_hasRing, Cond.instanceMethod yX0_hasRing, Cond.selects RX0 yX0_hasRing yX0_hasRing, Cond.code yX0_hasRing cX0_hasRing 4 (some .boolean), Cond.fieldLink RX0 57 "TileArray$Circuit" "orderSize" "I", Cond.fieldLink RX0 37 "TileArray$Circuit" "ordered" "[Z", Cond.fieldLink RX0 15 "TileArray$Circuit" "register" "[Z", Cond.methodLink RX0 60 yX0_orderIfReady, Cond.instanceMethod yX0_orderIfReady, Cond.selects RX0 yX0_orderIfReady yX0_orderIfReady, Cond.code yX0_orderIfReady cX0_orderIfReady 4 none, Cond.fieldLink RX0 25 "TileArray$Circuit" "sourceOfSink" "[I", Cond.fieldLink RX0 34 "TileArray$Circuit" "order" "[I", Cond.methodLink RX0 50 yX0_hasCell]
def wsX8_build_r2 : List Cond := [Cond.instanceMethod yX0_hasCell, Cond.selects RX0 yX0_hasCell yX0_hasCell, Cond.code yX0_hasCell cX0_hasCell 2 (some .boolean), Cond.methodLink RX8 99 yX2_gather, Cond.instanceMethod yX2_gather, Cond.selects RX2 yX2_gather yX2_gather, Cond.initialized RX2, Cond.code yX2_gather cX2_gather 5 none, Cond.fieldLink RX2 9 "TileArray$Nets" "start" "[I", Cond.fieldLink RX2 15 "TileArray$Nets" "sinks" "[I", Cond.methodLink RX2 18 yX0_sourceOf, Cond.instanceMethod yX0_sourceOf, Cond.selects RX0 yX0_sourceOf yX0_sourceOf, Cond.code yX0_sourceOf cX0_sourceOf 2 (some .int), Cond.methodLink RX8 103 yX3_place, Cond.instanceMethod yX3_place, Cond.selects RX3 yX3_place yX3_place, Cond.initialized RX3, Cond.code yX3_place cX3_place 4 (some .int), Cond.methodLink RX3 26 yX3_putFirst, Cond.instanceMethod yX3_putFirst, Cond.selects RX3 yX3_putFirst yX3_putFirst, Cond.code yX3_putFirst cX3_putFirst 3 none, Cond.fieldLink RX3 19 "TileArray$Placing" "cellOn" "[I"]
def wsX8_build_r3 : List Cond := [Cond.fieldLink RX3 9 "TileArray$Placing" "circuit" "LTileArray$Circuit;", Cond.methodLink RX3 37 yJ7_fill_53178, Cond.static yJ7_fill_53178, Cond.initialized RJ7, Cond.code yJ7_fill_53178 cJ7_fill_53178 4 none, Cond.methodLink RX3 43 yX0_size, Cond.methodLink RX3 48 yX0_fixedTile, Cond.instanceMethod yX0_fixedTile, Cond.selects RX0 yX0_fixedTile yX0_fixedTile, Cond.code yX0_fixedTile cX0_fixedTile 2 (some .int), Cond.fieldLink RX0 22 "TileArray$Circuit" "fixedTo" "[I", Cond.methodLink RX3 51 yX3_put, Cond.instanceMethod yX3_put, Cond.selects RX3 yX3_put yX3_put, Cond.code yX3_put cX3_put 3 none, Cond.fieldLink RX3 23 "TileArray$Placing" "tileUnder" "[I", Cond.methodLink RX3 29 yX3_sumOfSpans, Cond.instanceMethod yX3_sumOfSpans, Cond.selects RX3 yX3_sumOfSpans yX3_sumOfSpans, Cond.code yX3_sumOfSpans cX3_sumOfSpans 3 (some .int), Cond.fieldLink RX3 15 "TileArray$Placing" "nets" "LTileArray$Nets;", Cond.methodLink RX3 63 yX2_sinksOf, Cond.instanceMethod yX2_sinksOf, Cond.selects RX2 yX2_sinksOf yX2_sinksOf]
def wsX8_build_r4 : List Cond := [Cond.code yX2_sinksOf cX2_sinksOf 2 (some .int), Cond.methodLink RX3 68 yX3_spanOf, Cond.instanceMethod yX3_spanOf, Cond.selects RX3 yX3_spanOf yX3_spanOf, Cond.code yX3_spanOf cX3_spanOf 8 (some .int), Cond.methodLink RX3 81 Lib.Math.min.name, Cond.static Lib.Math.min.name, Cond.initialized "java/lang/Math", Cond.code Lib.Math.min.name Lib.Math.min.code 2 (some .int), Cond.methodLink RX3 86 Lib.Math.max.name, Cond.static Lib.Math.max.name, Cond.code Lib.Math.max.name Lib.Math.max.code 2 (some .int), Cond.methodLink RX3 71 yX3_siteOf, Cond.instanceMethod yX3_siteOf, Cond.selects RX3 yX3_siteOf yX3_siteOf, Cond.code yX3_siteOf cX3_siteOf 2 (some .int), Cond.methodLink RX3 74 yX2_sinkAt, Cond.instanceMethod yX2_sinkAt, Cond.selects RX2 yX2_sinkAt yX2_sinkAt, Cond.code yX2_sinkAt cX2_sinkAt 4 (some .int), Cond.methodLink RX3 78 yX3_siteOfSink, Cond.instanceMethod yX3_siteOfSink, Cond.selects RX3 yX3_siteOfSink yX3_siteOfSink, Cond.code yX3_siteOfSink cX3_siteOfSink 2 (some .int)]
def wsX8_build_r5 : List Cond := [Cond.methodLink RX3 33 yX3_goThrough, Cond.instanceMethod yX3_goThrough, Cond.selects RX3 yX3_goThrough yX3_goThrough, Cond.code yX3_goThrough cX3_goThrough 5 (some .int), Cond.methodLink RX3 55 yX3_isFixed, Cond.instanceMethod yX3_isFixed, Cond.selects RX3 yX3_isFixed yX3_isFixed, Cond.code yX3_isFixed cX3_isFixed 2 (some .boolean), Cond.methodLink RX3 59 yX3_exchangeIfBetter, Cond.instanceMethod yX3_exchangeIfBetter, Cond.selects RX3 yX3_exchangeIfBetter yX3_exchangeIfBetter, Cond.code yX3_exchangeIfBetter cX3_exchangeIfBetter 7 (some .int), Cond.methodLink RX8 106 yX4_route, Cond.instanceMethod yX4_route, Cond.selects RX4 yX4_route yX4_route, Cond.initialized RX4, Cond.code yX4_route cX4_route 2 (some .int), Cond.fieldLink RX4 34 "TileArray$Routing" "history" "[I", Cond.methodLink RX4 53 yJ7_fill_53178, Cond.methodLink RX4 59 yX4_routeAll, Cond.instanceMethod yX4_routeAll, Cond.selects RX4 yX4_routeAll yX4_routeAll, Cond.code yX4_routeAll cX4_routeAll 2 (some .boolean), Cond.fieldLink RX4 30 "TileArray$Routing" "users" "[I"]
def wsX8_build_r6 : List Cond := [Cond.fieldLink RX4 47 "TileArray$Routing" "channelSetting" "[I", Cond.fieldLink RX4 50 "TileArray$Routing" "pinSetting" "[I", Cond.fieldLink RX4 15 "TileArray$Routing" "nets" "LTileArray$Nets;", Cond.methodLink RX4 72 yX2_sinksOf, Cond.methodLink RX4 77 yX4_routeNet, Cond.instanceMethod yX4_routeNet, Cond.selects RX4 yX4_routeNet yX4_routeNet, Cond.code yX4_routeNet cX4_routeNet 4 (some .boolean), Cond.fieldLink RX4 40 "TileArray$Routing" "distance" "[I", Cond.constant RX4 98 (1048576), Cond.fieldLink RX4 43 "TileArray$Routing" "inTree" "[Z", Cond.methodLink RX4 81 yX4_wireOf, Cond.instanceMethod yX4_wireOf, Cond.selects RX4 yX4_wireOf yX4_wireOf, Cond.code yX4_wireOf cX4_wireOf 2 (some .int), Cond.fieldLink RX4 19 "TileArray$Routing" "placing" "LTileArray$Placing;", Cond.methodLink RX4 102 yX3_siteOf, Cond.methodLink RX4 66 yX1_outletOf, Cond.static yX1_outletOf, Cond.initialized RX1, Cond.code yX1_outletOf cX1_outletOf 1 (some .int), Cond.methodLink RX4 84 yX4_startTree, Cond.instanceMethod yX4_startTree, Cond.selects RX4 yX4_startTree yX4_startTree]
def wsX8_build_r7 : List Cond := [Cond.code yX4_startTree cX4_startTree 3 none, Cond.fieldLink RX4 37 "TileArray$Routing" "price" "[I", Cond.methodLink RX4 88 yX4_spread, Cond.instanceMethod yX4_spread, Cond.selects RX4 yX4_spread yX4_spread, Cond.code yX4_spread cX4_spread 2 none, Cond.constant RX4 111 (1000000), Cond.fieldLink RX4 26 "TileArray$Routing" "queue" "LTileArray$WireQueue;", Cond.methodLink RX4 107 yX4_shorten, Cond.instanceMethod yX4_shorten, Cond.selects RX4 yX4_shorten yX4_shorten, Cond.code yX4_shorten cX4_shorten 3 none, Cond.methodLink RX4 125 yX7_add, Cond.instanceMethod yX7_add, Cond.selects RX7 yX7_add yX7_add, Cond.initialized RX7, Cond.code yX7_add cX7_add 2 none, Cond.fieldLink RX7 15 "TileArray$WireQueue" "waits" "[Z", Cond.fieldLink RX7 19 "TileArray$WireQueue" "size" "I", Cond.fieldLink RX7 9 "TileArray$WireQueue" "row" "[I", Cond.fieldLink RX7 23 "TileArray$WireQueue" "first" "I", Cond.methodLink RX4 112 yX7_isEmpty, Cond.instanceMethod yX7_isEmpty, Cond.selects RX7 yX7_isEmpty yX7_isEmpty]
def wsX8_build_r8 : List Cond := [Cond.code yX7_isEmpty cX7_isEmpty 1 (some .boolean), Cond.methodLink RX4 115 yX7_take, Cond.instanceMethod yX7_take, Cond.selects RX7 yX7_take yX7_take, Cond.code yX7_take cX7_take 2 (some .int), Cond.methodLink RX4 119 yX4_spreadFrom, Cond.instanceMethod yX4_spreadFrom, Cond.selects RX4 yX4_spreadFrom yX4_spreadFrom, Cond.code yX4_spreadFrom cX4_spreadFrom 4 none, Cond.fieldLink RX4 9 "TileArray$Routing" "fabric" "LTileArray$Fabric;", Cond.methodLink RX4 122 yX1_channelAfter, Cond.instanceMethod yX1_channelAfter, Cond.selects RX1 yX1_channelAfter yX1_channelAfter, Cond.code yX1_channelAfter cX1_channelAfter 4 (some .int), Cond.fieldLink RX1 21 "TileArray$Fabric" "afterCount" "[I", Cond.fieldLink RX1 18 "TileArray$Fabric" "after" "[I", Cond.methodLink RX4 91 yX2_sinkAt, Cond.methodLink RX4 95 yX4_endOfWay, Cond.instanceMethod yX4_endOfWay, Cond.selects RX4 yX4_endOfWay yX4_endOfWay, Cond.code yX4_endOfWay cX4_endOfWay 2 (some .int), Cond.methodLink RX4 128 yX3_siteOfSink, Cond.methodLink RX4 131 yX4_switchPin, Cond.instanceMethod yX4_switchPin]
def wsX8_build_r9 : List Cond := [Cond.selects RX4 yX4_switchPin yX4_switchPin, Cond.code yX4_switchPin cX4_switchPin 6 (some .int), Cond.methodLink RX4 137 yX1_beforePin, Cond.instanceMethod yX1_beforePin, Cond.selects RX1 yX1_beforePin yX1_beforePin, Cond.code yX1_beforePin cX1_beforePin 4 (some .int), Cond.fieldLink RX1 15 "TileArray$Fabric" "beforePin" "[I", Cond.methodLink RX4 140 yX4_isNearer, Cond.instanceMethod yX4_isNearer, Cond.selects RX4 yX4_isNearer yX4_isNearer, Cond.code yX4_isNearer cX4_isNearer 4 (some .boolean), Cond.methodLink RX4 134 yX1_outputWire, Cond.static yX1_outputWire, Cond.code yX1_outputWire cX1_outputWire 1 (some .int), Cond.methodLink RX1 34 yX1_channelOf, Cond.static yX1_channelOf, Cond.code yX1_channelOf cX1_channelOf 3 (some .int), Cond.methodLink RX4 99 yX4_followBack, Cond.instanceMethod yX4_followBack, Cond.selects RX4 yX4_followBack yX4_followBack, Cond.code yX4_followBack cX4_followBack 5 none, Cond.methodLink RX4 144 yX4_settingBack, Cond.instanceMethod yX4_settingBack, Cond.selects RX4 yX4_settingBack yX4_settingBack]
def wsX8_build_r10 : List Cond := [Cond.code yX4_settingBack cX4_settingBack 7 (some .int), Cond.methodLink RX4 147 yX1_beforeChannel, Cond.instanceMethod yX1_beforeChannel, Cond.selects RX1 yX1_beforeChannel yX1_beforeChannel, Cond.code yX1_beforeChannel cX1_beforeChannel 5 (some .int), Cond.fieldLink RX1 9 "TileArray$Fabric" "beforeChannel" "[I", Cond.methodLink RX4 63 yX4_growHistory, Cond.instanceMethod yX4_growHistory, Cond.selects RX4 yX4_growHistory yX4_growHistory, Cond.code yX4_growHistory cX4_growHistory 3 (some .boolean), Cond.methodLink RX8 109 yX8_keepBuilding, Cond.instanceMethod yX8_keepBuilding, Cond.selects RX8 yX8_keepBuilding yX8_keepBuilding, Cond.initialized RX8, Cond.code yX8_keepBuilding cX8_keepBuilding 5 none, Cond.fieldLink RX8 62 "TileArray" "builtOn" "[I", Cond.fieldLink RX8 72 "TileArray" "builtSpans" "I", Cond.fieldLink RX8 49 "TileArray" "tiles" "LTileArray$Tiles;", Cond.methodLink RX8 80 yX0_hasCell, Cond.methodLink RX8 156 yX3_siteOf, Cond.methodLink RX8 159 yX3_cellAt, Cond.instanceMethod yX3_cellAt, Cond.selects RX3 yX3_cellAt yX3_cellAt, Cond.code yX3_cellAt cX3_cellAt 2 (some .int)]
def wsX8_build_r11 : List Cond := [Cond.methodLink RX8 162 yX0_settingsOf, Cond.instanceMethod yX0_settingsOf, Cond.selects RX0 yX0_settingsOf yX0_settingsOf, Cond.code yX0_settingsOf cX0_settingsOf 3 (some .long), Cond.fieldLink RX0 9 "TileArray$Circuit" "table" "[I", Cond.fieldLink RX0 19 "TileArray$Circuit" "first" "[I", Cond.methodLink RX8 165 yX4_settingsOf, Cond.instanceMethod yX4_settingsOf, Cond.selects RX4 yX4_settingsOf yX4_settingsOf, Cond.code yX4_settingsOf cX4_settingsOf 7 (some .long), Cond.methodLink RX8 121 yX5_setBits, Cond.instanceMethod yX5_setBits, Cond.selects RX5 yX5_setBits yX5_setBits, Cond.initialized RX5, Cond.code yX5_setBits cX5_setBits 5 none, Cond.fieldLink RX5 15 "TileArray$Tiles" "bits" "[J", Cond.fieldLink RX5 19 "TileArray$Tiles" "gives" "[I", Cond.methodLink RX5 51 yX5_hasRegister, Cond.instanceMethod yX5_hasRegister, Cond.selects RX5 yX5_hasRegister yX5_hasRegister, Cond.code yX5_hasRegister cX5_hasRegister 2 (some .boolean), Cond.methodLink RX5 47 yX5_bitsOf, Cond.instanceMethod yX5_bitsOf, Cond.selects RX5 yX5_bitsOf yX5_bitsOf]
def wsX8_build_r12 : List Cond := [Cond.code yX5_bitsOf cX5_bitsOf 2 (some .long), Cond.methodLink RX8 125 yX5_retrace, Cond.instanceMethod yX5_retrace, Cond.selects RX5 yX5_retrace yX5_retrace, Cond.code yX5_retrace cX5_retrace 4 none, Cond.fieldLink RX5 9 "TileArray$Tiles" "fabric" "LTileArray$Fabric;", Cond.methodLink RX5 40 yX5_pinSetting, Cond.static yX5_pinSetting, Cond.code yX5_pinSetting cX5_pinSetting 3 (some .int), Cond.methodLink RX5 55 yX1_beforePin, Cond.methodLink RX5 61 yX5_trace, Cond.instanceMethod yX5_trace, Cond.selects RX5 yX5_trace yX5_trace, Cond.code yX5_trace cX5_trace 8 none, Cond.fieldLink RX5 26 "TileArray$Tiles" "origin" "[I", Cond.fieldLink RX5 29 "TileArray$Tiles" "length" "[I", Cond.methodLink RX5 80 yX1_isChannel, Cond.static yX1_isChannel, Cond.code yX1_isChannel cX1_isChannel 1 (some .boolean), Cond.methodLink RX5 44 yX5_channelSetting, Cond.static yX5_channelSetting, Cond.code yX5_channelSetting cX5_channelSetting 3 (some .int), Cond.methodLink RX5 83 yX1_beforeChannel, Cond.methodLink RX5 86 yX5_originAt]
def wsX8_build_r13 : List Cond := [Cond.static yX5_originAt, Cond.code yX5_originAt cX5_originAt 1 (some .int), Cond.methodLink RX5 65 yX1_outputWire]
def wsX8_build : List Cond := .code yX8_build cX8_build 3 (some .int) :: ((wsX8_build_r1 ++ (wsX8_build_r2 ++ (wsX8_build_r3 ++ (wsX8_build_r4 ++ (wsX8_build_r5 ++ (wsX8_build_r6 ++ (wsX8_build_r7 ++ (wsX8_build_r8 ++ (wsX8_build_r9 ++ (wsX8_build_r10 ++ (wsX8_build_r11 ++ (wsX8_build_r12 ++ wsX8_build_r13)))))))))))) ++ wsX80 ++ wsX00 ++ wsX20 ++ wsX30 ++ wsX40 ++ wsX70 ++ wsX10 ++ wsX50)
def wsX8_tileOf : List Cond := .code yX8_tileOf cX8_tileOf 2 (some .int) :: ([.fieldLink RX8 62 "TileArray" "builtOn" "[I"] ++ wsX80)
def wsX8_cost : List Cond := .code yX8_cost cX8_cost 1 (some .int) :: ([.fieldLink RX8 72 "TileArray" "builtSpans" "I"] ++ wsX80)
def wsX8_bits : List Cond := .code yX8_bits cX8_bits 2 (some .long) :: ([.fieldLink RX8 49 "TileArray" "tiles" "LTileArray$Tiles;", .methodLink RX8 113 yX5_bitsOf, .instanceMethod yX5_bitsOf, .selects RX5 yX5_bitsOf yX5_bitsOf, .initialized RX5, .code yX5_bitsOf cX5_bitsOf 2 (some .long), .fieldLink RX5 15 "TileArray$Tiles" "bits" "[J"] ++ wsX80 ++ wsX50)
def wsX8_load_r1 : List Cond := [Cond.fieldLink RX8 49 "TileArray" "tiles" "LTileArray$Tiles;", Cond.methodLink RX8 117 yX5_areLegal, Cond.static yX5_areLegal, Cond.initialized RX5, Cond.code yX5_areLegal cX5_areLegal 3 (some .boolean), Cond.constantLong RX5 38 (70368744177664), Cond.methodLink RX5 40 yX5_pinSetting, Cond.static yX5_pinSetting, Cond.code yX5_pinSetting cX5_pinSetting 3 (some .int), Cond.methodLink RX5 44 yX5_channelSetting, Cond.static yX5_channelSetting, Cond.code yX5_channelSetting cX5_channelSetting 3 (some .int), Cond.methodLink RX8 121 yX5_setBits, Cond.instanceMethod yX5_setBits, Cond.selects RX5 yX5_setBits yX5_setBits, Cond.code yX5_setBits cX5_setBits 5 none, Cond.fieldLink RX5 15 "TileArray$Tiles" "bits" "[J", Cond.fieldLink RX5 19 "TileArray$Tiles" "gives" "[I", Cond.methodLink RX5 51 yX5_hasRegister, Cond.instanceMethod yX5_hasRegister, Cond.selects RX5 yX5_hasRegister yX5_hasRegister, Cond.code yX5_hasRegister cX5_hasRegister 2 (some .boolean), Cond.methodLink RX5 47 yX5_bitsOf, Cond.instanceMethod yX5_bitsOf]
def wsX8_load_r2 : List Cond := [Cond.selects RX5 yX5_bitsOf yX5_bitsOf, Cond.code yX5_bitsOf cX5_bitsOf 2 (some .long), Cond.methodLink RX8 125 yX5_retrace, Cond.instanceMethod yX5_retrace, Cond.selects RX5 yX5_retrace yX5_retrace, Cond.code yX5_retrace cX5_retrace 4 none, Cond.fieldLink RX5 9 "TileArray$Tiles" "fabric" "LTileArray$Fabric;", Cond.methodLink RX5 55 yX1_beforePin, Cond.instanceMethod yX1_beforePin, Cond.selects RX1 yX1_beforePin yX1_beforePin, Cond.initialized RX1, Cond.code yX1_beforePin cX1_beforePin 4 (some .int), Cond.fieldLink RX1 15 "TileArray$Fabric" "beforePin" "[I", Cond.methodLink RX5 61 yX5_trace, Cond.instanceMethod yX5_trace, Cond.selects RX5 yX5_trace yX5_trace, Cond.code yX5_trace cX5_trace 8 none, Cond.fieldLink RX5 26 "TileArray$Tiles" "origin" "[I", Cond.fieldLink RX5 29 "TileArray$Tiles" "length" "[I", Cond.methodLink RX5 80 yX1_isChannel, Cond.static yX1_isChannel, Cond.code yX1_isChannel cX1_isChannel 1 (some .boolean), Cond.methodLink RX5 83 yX1_beforeChannel, Cond.instanceMethod yX1_beforeChannel]
def wsX8_load_r3 : List Cond := [Cond.selects RX1 yX1_beforeChannel yX1_beforeChannel, Cond.code yX1_beforeChannel cX1_beforeChannel 5 (some .int), Cond.fieldLink RX1 9 "TileArray$Fabric" "beforeChannel" "[I", Cond.methodLink RX5 86 yX5_originAt, Cond.static yX5_originAt, Cond.code yX5_originAt cX5_originAt 1 (some .int), Cond.methodLink RX5 65 yX1_outputWire, Cond.static yX1_outputWire, Cond.code yX1_outputWire cX1_outputWire 1 (some .int), Cond.methodLink RX1 34 yX1_channelOf, Cond.static yX1_channelOf, Cond.code yX1_channelOf cX1_channelOf 3 (some .int)]
def wsX8_load : List Cond := .code yX8_load cX8_load 4 (some .boolean) :: ((wsX8_load_r1 ++ (wsX8_load_r2 ++ wsX8_load_r3)) ++ wsX80 ++ wsX50 ++ wsX10)
def wsX8_checkSum : List Cond := .code yX8_checkSum cX8_checkSum 1 (some .int) :: ([.fieldLink RX8 49 "TileArray" "tiles" "LTileArray$Tiles;", .methodLink RX8 128 yX5_sumUp, .instanceMethod yX5_sumUp, .selects RX5 yX5_sumUp yX5_sumUp, .initialized RX5, .code yX5_sumUp cX5_sumUp 6 (some .int), .constant RX5 69 (65535), .fieldLink RX5 15 "TileArray$Tiles" "bits" "[J"] ++ wsX80 ++ wsX50)
def wsX8_wayTo : List Cond := .code yX8_wayTo cX8_wayTo 3 (some .int) :: ([])
def wsX8_pin : List Cond := .code yX8_pin cX8_pin 3 (some .int) :: ([.fieldLink RX8 49 "TileArray" "tiles" "LTileArray$Tiles;", .methodLink RX8 131 yX8_wayTo, .static yX8_wayTo, .initialized RX8, .code yX8_wayTo cX8_wayTo 3 (some .int), .methodLink RX8 135 yX5_originOf, .instanceMethod yX5_originOf, .selects RX5 yX5_originOf yX5_originOf, .initialized RX5, .code yX5_originOf cX5_originOf 2 (some .int), .fieldLink RX5 26 "TileArray$Tiles" "origin" "[I"] ++ wsX80 ++ wsX50)
def wsX8_outputOf : List Cond := .code yX8_outputOf cX8_outputOf 2 (some .int) :: ([.fieldLink RX8 49 "TileArray" "tiles" "LTileArray$Tiles;", .methodLink RX8 135 yX5_originOf, .instanceMethod yX5_originOf, .selects RX5 yX5_originOf yX5_originOf, .initialized RX5, .code yX5_originOf cX5_originOf 2 (some .int), .fieldLink RX5 26 "TileArray$Tiles" "origin" "[I"] ++ wsX80 ++ wsX50)
def wsX8_channels : List Cond := .code yX8_channels cX8_channels 3 (some .int) :: ([.fieldLink RX8 49 "TileArray" "tiles" "LTileArray$Tiles;", .methodLink RX8 131 yX8_wayTo, .static yX8_wayTo, .initialized RX8, .code yX8_wayTo cX8_wayTo 3 (some .int), .methodLink RX8 139 yX5_lengthOf, .instanceMethod yX5_lengthOf, .selects RX5 yX5_lengthOf yX5_lengthOf, .initialized RX5, .code yX5_lengthOf cX5_lengthOf 2 (some .int), .fieldLink RX5 29 "TileArray$Tiles" "length" "[I"] ++ wsX80 ++ wsX50)
def wsX8_longest_r1 : List Cond := [Cond.fieldLink RX8 58 "TileArray" "timing" "LTileArray$Timing;", Cond.methodLink RX8 142 yX6_longestWay, Cond.instanceMethod yX6_longestWay, Cond.selects RX6 yX6_longestWay yX6_longestWay, Cond.initialized RX6, Cond.code yX6_longestWay cX6_longestWay 6 (some .double), Cond.constantDouble RX6 27 (13830554455654793216), Cond.fieldLink RX6 9 "TileArray$Timing" "tiles" "LTileArray$Tiles;", Cond.constantDouble RX6 39 (4603804719079489536), Cond.constantDouble RX6 41 (4598175219545276416), Cond.methodLink RX6 23 yX6_timeOutlets, Cond.instanceMethod yX6_timeOutlets, Cond.selects RX6 yX6_timeOutlets yX6_timeOutlets, Cond.code yX6_timeOutlets cX6_timeOutlets 4 (some .boolean), Cond.fieldLink RX6 19 "TileArray$Timing" "known" "[Z", Cond.fieldLink RX6 15 "TileArray$Timing" "outletAt" "[D", Cond.constantDouble RX6 50 (4602678819172646912), Cond.methodLink RX6 33 yX5_hasRegister, Cond.instanceMethod yX5_hasRegister, Cond.selects RX5 yX5_hasRegister yX5_hasRegister, Cond.initialized RX5, Cond.code yX5_hasRegister cX5_hasRegister 2 (some .boolean), Cond.methodLink RX5 47 yX5_bitsOf, Cond.instanceMethod yX5_bitsOf]
def wsX8_longest_r2 : List Cond := [Cond.selects RX5 yX5_bitsOf yX5_bitsOf, Cond.code yX5_bitsOf cX5_bitsOf 2 (some .long), Cond.fieldLink RX5 15 "TileArray$Tiles" "bits" "[J", Cond.methodLink RX6 52 yX6_pinsAreKnown, Cond.instanceMethod yX6_pinsAreKnown, Cond.selects RX6 yX6_pinsAreKnown yX6_pinsAreKnown, Cond.code yX6_pinsAreKnown cX6_pinsAreKnown 4 (some .boolean), Cond.methodLink RX6 55 yX5_originOf, Cond.instanceMethod yX5_originOf, Cond.selects RX5 yX5_originOf yX5_originOf, Cond.code yX5_originOf cX5_originOf 2 (some .int), Cond.fieldLink RX5 26 "TileArray$Tiles" "origin" "[I", Cond.methodLink RX6 29 yX6_latestPin, Cond.instanceMethod yX6_latestPin, Cond.selects RX6 yX6_latestPin yX6_latestPin, Cond.code yX6_latestPin cX6_latestPin 5 (some .double), Cond.methodLink RX6 47 yX6_arrival, Cond.instanceMethod yX6_arrival, Cond.selects RX6 yX6_arrival yX6_arrival, Cond.code yX6_arrival cX6_arrival 5 (some .double), Cond.constantDouble RX6 59 (4600427019358961664), Cond.methodLink RX6 61 yX5_lengthOf, Cond.instanceMethod yX5_lengthOf, Cond.selects RX5 yX5_lengthOf yX5_lengthOf]
def wsX8_longest_r3 : List Cond := [Cond.code yX5_lengthOf cX5_lengthOf 2 (some .int), Cond.fieldLink RX5 29 "TileArray$Tiles" "length" "[I", Cond.methodLink RX6 43 yX6_later, Cond.static yX6_later, Cond.code yX6_later cX6_later 4 (some .double)]
def wsX8_longest : List Cond := .code yX8_longest cX8_longest 1 (some .double) :: ((wsX8_longest_r1 ++ (wsX8_longest_r2 ++ wsX8_longest_r3)) ++ wsX80 ++ wsX60 ++ wsX50)
def wsX8_slack_r1 : List Cond := [Cond.constantDouble RX8 146 (13830554455654793216), Cond.fieldLink RX8 58 "TileArray" "timing" "LTileArray$Timing;", Cond.methodLink RX8 142 yX6_longestWay, Cond.instanceMethod yX6_longestWay, Cond.selects RX6 yX6_longestWay yX6_longestWay, Cond.initialized RX6, Cond.code yX6_longestWay cX6_longestWay 6 (some .double), Cond.constantDouble RX6 27 (13830554455654793216), Cond.fieldLink RX6 9 "TileArray$Timing" "tiles" "LTileArray$Tiles;", Cond.constantDouble RX6 39 (4603804719079489536), Cond.constantDouble RX6 41 (4598175219545276416), Cond.methodLink RX6 23 yX6_timeOutlets, Cond.instanceMethod yX6_timeOutlets, Cond.selects RX6 yX6_timeOutlets yX6_timeOutlets, Cond.code yX6_timeOutlets cX6_timeOutlets 4 (some .boolean), Cond.fieldLink RX6 19 "TileArray$Timing" "known" "[Z", Cond.fieldLink RX6 15 "TileArray$Timing" "outletAt" "[D", Cond.constantDouble RX6 50 (4602678819172646912), Cond.methodLink RX6 33 yX5_hasRegister, Cond.instanceMethod yX5_hasRegister, Cond.selects RX5 yX5_hasRegister yX5_hasRegister, Cond.initialized RX5, Cond.code yX5_hasRegister cX5_hasRegister 2 (some .boolean), Cond.methodLink RX5 47 yX5_bitsOf]
def wsX8_slack_r2 : List Cond := [Cond.instanceMethod yX5_bitsOf, Cond.selects RX5 yX5_bitsOf yX5_bitsOf, Cond.code yX5_bitsOf cX5_bitsOf 2 (some .long), Cond.fieldLink RX5 15 "TileArray$Tiles" "bits" "[J", Cond.methodLink RX6 52 yX6_pinsAreKnown, Cond.instanceMethod yX6_pinsAreKnown, Cond.selects RX6 yX6_pinsAreKnown yX6_pinsAreKnown, Cond.code yX6_pinsAreKnown cX6_pinsAreKnown 4 (some .boolean), Cond.methodLink RX6 55 yX5_originOf, Cond.instanceMethod yX5_originOf, Cond.selects RX5 yX5_originOf yX5_originOf, Cond.code yX5_originOf cX5_originOf 2 (some .int), Cond.fieldLink RX5 26 "TileArray$Tiles" "origin" "[I", Cond.methodLink RX6 29 yX6_latestPin, Cond.instanceMethod yX6_latestPin, Cond.selects RX6 yX6_latestPin yX6_latestPin, Cond.code yX6_latestPin cX6_latestPin 5 (some .double), Cond.methodLink RX6 47 yX6_arrival, Cond.instanceMethod yX6_arrival, Cond.selects RX6 yX6_arrival yX6_arrival, Cond.code yX6_arrival cX6_arrival 5 (some .double), Cond.constantDouble RX6 59 (4600427019358961664), Cond.methodLink RX6 61 yX5_lengthOf, Cond.instanceMethod yX5_lengthOf]
def wsX8_slack_r3 : List Cond := [Cond.selects RX5 yX5_lengthOf yX5_lengthOf, Cond.code yX5_lengthOf cX5_lengthOf 2 (some .int), Cond.fieldLink RX5 29 "TileArray$Tiles" "length" "[I", Cond.methodLink RX6 43 yX6_later, Cond.static yX6_later, Cond.code yX6_later cX6_later 4 (some .double)]
def wsX8_slack : List Cond := .code yX8_slack cX8_slack 5 (some .double) :: ((wsX8_slack_r1 ++ (wsX8_slack_r2 ++ wsX8_slack_r3)) ++ wsX80 ++ wsX60 ++ wsX50)
def wsX8_reset_r1 : List Cond := [Cond.fieldLink RX8 49 "TileArray" "tiles" "LTileArray$Tiles;", Cond.fieldLink RX8 15 "TileArray" "circuit" "LTileArray$Circuit;", Cond.methodLink RX8 148 yX5_restart, Cond.instanceMethod yX5_restart, Cond.selects RX5 yX5_restart yX5_restart, Cond.initialized RX5, Cond.code yX5_restart cX5_restart 2 none, Cond.fieldLink RX5 19 "TileArray$Tiles" "gives" "[I", Cond.fieldLink RX5 15 "TileArray$Tiles" "bits" "[J", Cond.methodLink RX5 51 yX5_hasRegister, Cond.instanceMethod yX5_hasRegister, Cond.selects RX5 yX5_hasRegister yX5_hasRegister, Cond.code yX5_hasRegister cX5_hasRegister 2 (some .boolean), Cond.methodLink RX5 47 yX5_bitsOf, Cond.instanceMethod yX5_bitsOf, Cond.selects RX5 yX5_bitsOf yX5_bitsOf, Cond.code yX5_bitsOf cX5_bitsOf 2 (some .long), Cond.methodLink RX8 151 yX0_restart, Cond.instanceMethod yX0_restart, Cond.selects RX0 yX0_restart yX0_restart, Cond.initialized RX0, Cond.code yX0_restart cX0_restart 2 none, Cond.fieldLink RX0 46 "TileArray$Circuit" "size" "I", Cond.fieldLink RX0 15 "TileArray$Circuit" "register" "[Z"]
def wsX8_reset_r2 : List Cond := [Cond.fieldLink RX0 28 "TileArray$Circuit" "value" "[I", Cond.fieldLink RX0 19 "TileArray$Circuit" "first" "[I"]
def wsX8_reset : List Cond := .code yX8_reset cX8_reset 1 none :: ((wsX8_reset_r1 ++ wsX8_reset_r2) ++ wsX80 ++ wsX50 ++ wsX00)
def wsX8_clock_r1 : List Cond := [Cond.fieldLink RX8 49 "TileArray" "tiles" "LTileArray$Tiles;", Cond.methodLink RX8 152 yX5_step, Cond.instanceMethod yX5_step, Cond.selects RX5 yX5_step yX5_step, Cond.initialized RX5, Cond.code yX5_step cX5_step 4 (some .int), Cond.fieldLink RX5 19 "TileArray$Tiles" "gives" "[I", Cond.methodLink RX5 51 yX5_hasRegister, Cond.instanceMethod yX5_hasRegister, Cond.selects RX5 yX5_hasRegister yX5_hasRegister, Cond.code yX5_hasRegister cX5_hasRegister 2 (some .boolean), Cond.methodLink RX5 47 yX5_bitsOf, Cond.instanceMethod yX5_bitsOf, Cond.selects RX5 yX5_bitsOf yX5_bitsOf, Cond.code yX5_bitsOf cX5_bitsOf 2 (some .long), Cond.fieldLink RX5 15 "TileArray$Tiles" "bits" "[J", Cond.methodLink RX5 70 yX5_tableGives, Cond.instanceMethod yX5_tableGives, Cond.selects RX5 yX5_tableGives yX5_tableGives, Cond.code yX5_tableGives cX5_tableGives 5 (some .int), Cond.methodLink RX5 73 yX5_valueAt, Cond.instanceMethod yX5_valueAt, Cond.selects RX5 yX5_valueAt yX5_valueAt, Cond.code yX5_valueAt cX5_valueAt 4 (some .int)]
def wsX8_clock_r2 : List Cond := [Cond.methodLink RX5 95 yX5_originOf, Cond.instanceMethod yX5_originOf, Cond.selects RX5 yX5_originOf yX5_originOf, Cond.code yX5_originOf cX5_originOf 2 (some .int), Cond.fieldLink RX5 26 "TileArray$Tiles" "origin" "[I", Cond.methodLink RX5 76 yX5_stepRegisters, Cond.instanceMethod yX5_stepRegisters, Cond.selects RX5 yX5_stepRegisters yX5_stepRegisters, Cond.code yX5_stepRegisters cX5_stepRegisters 3 none, Cond.fieldLink RX5 23 "TileArray$Tiles" "next" "[I", Cond.methodLink RX5 89 arraycopyName, Cond.native arraycopyName, Cond.static arraycopyName, Cond.initialized "java/lang/System"]
def wsX8_clock : List Cond := .code yX8_clock cX8_clock 2 (some .int) :: ((wsX8_clock_r1 ++ wsX8_clock_r2) ++ wsX80 ++ wsX50)
def wsX8_run_r1 : List Cond := [Cond.fieldLink RX8 15 "TileArray" "circuit" "LTileArray$Circuit;", Cond.methodLink RX8 95 yX0_hasRing, Cond.instanceMethod yX0_hasRing, Cond.selects RX0 yX0_hasRing yX0_hasRing, Cond.initialized RX0, Cond.code yX0_hasRing cX0_hasRing 4 (some .boolean), Cond.fieldLink RX0 57 "TileArray$Circuit" "orderSize" "I", Cond.fieldLink RX0 46 "TileArray$Circuit" "size" "I", Cond.fieldLink RX0 37 "TileArray$Circuit" "ordered" "[Z", Cond.fieldLink RX0 15 "TileArray$Circuit" "register" "[Z", Cond.methodLink RX0 60 yX0_orderIfReady, Cond.instanceMethod yX0_orderIfReady, Cond.selects RX0 yX0_orderIfReady yX0_orderIfReady, Cond.code yX0_orderIfReady cX0_orderIfReady 4 none, Cond.fieldLink RX0 25 "TileArray$Circuit" "sourceOfSink" "[I", Cond.fieldLink RX0 34 "TileArray$Circuit" "order" "[I", Cond.methodLink RX0 50 yX0_hasCell, Cond.instanceMethod yX0_hasCell, Cond.selects RX0 yX0_hasCell yX0_hasCell, Cond.code yX0_hasCell cX0_hasCell 2 (some .boolean), Cond.methodLink RX8 155 yX0_step, Cond.instanceMethod yX0_step, Cond.selects RX0 yX0_step yX0_step, Cond.code yX0_step cX0_step 4 (some .int)]
def wsX8_run_r2 : List Cond := [Cond.fieldLink RX0 28 "TileArray$Circuit" "value" "[I", Cond.methodLink RX0 64 yX0_tableGives, Cond.instanceMethod yX0_tableGives, Cond.selects RX0 yX0_tableGives yX0_tableGives, Cond.code yX0_tableGives cX0_tableGives 4 (some .int), Cond.fieldLink RX0 9 "TileArray$Circuit" "table" "[I", Cond.methodLink RX0 68 yX0_valueAt, Cond.instanceMethod yX0_valueAt, Cond.selects RX0 yX0_valueAt yX0_valueAt, Cond.code yX0_valueAt cX0_valueAt 3 (some .int), Cond.methodLink RX0 71 yX0_stepRegisters, Cond.instanceMethod yX0_stepRegisters, Cond.selects RX0 yX0_stepRegisters yX0_stepRegisters, Cond.code yX0_stepRegisters cX0_stepRegisters 2 none, Cond.fieldLink RX0 31 "TileArray$Circuit" "next" "[I", Cond.methodLink RX0 74 arraycopyName, Cond.native arraycopyName, Cond.static arraycopyName, Cond.initialized "java/lang/System"]
def wsX8_run : List Cond := .code yX8_run cX8_run 2 (some .int) :: ((wsX8_run_r1 ++ wsX8_run_r2) ++ wsX80 ++ wsX00)
def wsX9_init_r1 : List Cond := [Cond.methodLink RX9 1 objectInit, Cond.instanceMethod objectInit, Cond.code objectInit ⟨#[0xb1]⟩ 1 none, Cond.arrayClass .int, Cond.fieldLink RX9 7 "TileArrayModel" "table" "[I", Cond.arrayClass .boolean, Cond.fieldLink RX9 13 "TileArrayModel" "register" "[Z", Cond.fieldLink RX9 17 "TileArrayModel" "first" "[Z", Cond.fieldLink RX9 20 "TileArrayModel" "pinSwitch" "[I", Cond.fieldLink RX9 23 "TileArrayModel" "channelSwitch" "[I", Cond.fieldLink RX9 26 "TileArrayModel" "state" "[I", Cond.fieldLink RX9 29 "TileArrayModel" "cellTable" "[I", Cond.fieldLink RX9 32 "TileArrayModel" "cellRegister" "[Z", Cond.fieldLink RX9 35 "TileArrayModel" "cellFirst" "[Z", Cond.fieldLink RX9 38 "TileArrayModel" "cellState" "[I", Cond.fieldLink RX9 41 "TileArrayModel" "fixed" "[I", Cond.fieldLink RX9 44 "TileArrayModel" "source" "[I", Cond.fieldLink RX9 47 "TileArrayModel" "builtTile" "[I", Cond.fieldLink RX9 50 "TileArrayModel" "tileIs" "[I", Cond.fieldLink RX9 53 "TileArrayModel" "cellOn" "[I", Cond.fieldLink RX9 56 "TileArrayModel" "uses" "[I", Cond.fieldLink RX9 59 "TileArrayModel" "history" "[I", Cond.fieldLink RX9 62 "TileArrayModel" "tree" "[Z", Cond.fieldLink RX9 65 "TileArrayModel" "least" "[I"]
def wsX9_init_r2 : List Cond := [Cond.fieldLink RX9 68 "TileArrayModel" "newPin" "[I", Cond.fieldLink RX9 71 "TileArrayModel" "newChannel" "[I", Cond.fieldLink RX9 74 "TileArrayModel" "seen" "[Z", Cond.arrayClass .double, Cond.fieldLink RX9 77 "TileArrayModel" "times" "[D", Cond.fieldLink RX9 81 "TileArrayModel" "values" "[I"]
def wsX9_init : List Cond := .code yX9_init cX9_init 2 none :: ((wsX9_init_r1 ++ wsX9_init_r2) ++ wsX90)
def wsX9_in : List Cond := .code yX9_in cX9_in 3 (some .boolean) :: ([])
def wsX9_channel : List Cond := .code yX9_channel cX9_channel 3 (some .int) :: ([])
def wsX9_comesIn : List Cond := .code yX9_comesIn cX9_comesIn 6 (some .int) :: ([.methodLink RX9 84 yX9_channel, .static yX9_channel, .initialized RX9, .code yX9_channel cX9_channel 3 (some .int)])
def wsX9_behindChannel : List Cond := .code yX9_behindChannel cX9_behindChannel 4 (some .int) :: ([.methodLink RX9 88 yX9_comesIn, .static yX9_comesIn, .initialized RX9, .code yX9_comesIn cX9_comesIn 6 (some .int), .methodLink RX9 84 yX9_channel, .static yX9_channel, .code yX9_channel cX9_channel 3 (some .int)])
def wsX9_behindPin : List Cond := .code yX9_behindPin cX9_behindPin 3 (some .int) :: ([.methodLink RX9 88 yX9_comesIn, .static yX9_comesIn, .initialized RX9, .code yX9_comesIn cX9_comesIn 6 (some .int), .methodLink RX9 84 yX9_channel, .static yX9_channel, .code yX9_channel cX9_channel 3 (some .int)])
def wsX9_wireOf : List Cond := .code yX9_wireOf cX9_wireOf 1 (some .int) :: ([])
def wsX9_channelOf : List Cond := .code yX9_channelOf cX9_channelOf 1 (some .int) :: ([])
def wsX9_outputWire : List Cond := .code yX9_outputWire cX9_outputWire 1 (some .int) :: ([.methodLink RX9 84 yX9_channel, .static yX9_channel, .initialized RX9, .code yX9_channel cX9_channel 3 (some .int)])
def wsX9_cell : List Cond := .code yX9_cell cX9_cell 4 (some .int) :: ([.fieldLink RX9 91 "TileArrayModel" "cells" "I", .fieldLink RX9 29 "TileArrayModel" "cellTable" "[I", .fieldLink RX9 32 "TileArrayModel" "cellRegister" "[Z", .fieldLink RX9 35 "TileArrayModel" "cellFirst" "[Z", .fieldLink RX9 38 "TileArrayModel" "cellState" "[I", .fieldLink RX9 41 "TileArrayModel" "fixed" "[I"] ++ wsX90)
def wsX9_isSource : List Cond := .code yX9_isSource cX9_isSource 2 (some .boolean) :: ([.fieldLink RX9 91 "TileArrayModel" "cells" "I", .methodLink RX9 95 yX9_in, .static yX9_in, .initialized RX9, .code yX9_in cX9_in 3 (some .boolean)] ++ wsX90)
def wsX9_connect : List Cond := .code yX9_connect cX9_connect 4 (some .boolean) :: ([.fieldLink RX9 91 "TileArrayModel" "cells" "I", .fieldLink RX9 44 "TileArrayModel" "source" "[I", .methodLink RX9 95 yX9_in, .static yX9_in, .initialized RX9, .code yX9_in cX9_in 3 (some .boolean), .methodLink RX9 99 yX9_isSource, .instanceMethod yX9_isSource, .selects RX9 yX9_isSource yX9_isSource, .code yX9_isSource cX9_isSource 2 (some .boolean)] ++ wsX90)
def wsX9_output : List Cond := .code yX9_output cX9_output 3 (some .boolean) :: ([.fieldLink RX9 44 "TileArrayModel" "source" "[I", .methodLink RX9 95 yX9_in, .static yX9_in, .initialized RX9, .code yX9_in cX9_in 3 (some .boolean), .methodLink RX9 99 yX9_isSource, .instanceMethod yX9_isSource, .selects RX9 yX9_isSource yX9_isSource, .code yX9_isSource cX9_isSource 2 (some .boolean), .fieldLink RX9 91 "TileArrayModel" "cells" "I"] ++ wsX90)
def wsX9_fix : List Cond := .code yX9_fix cX9_fix 4 (some .boolean) :: ([.fieldLink RX9 91 "TileArrayModel" "cells" "I", .fieldLink RX9 41 "TileArrayModel" "fixed" "[I", .methodLink RX9 95 yX9_in, .static yX9_in, .initialized RX9, .code yX9_in cX9_in 3 (some .boolean)] ++ wsX90)
def wsX9_ring : List Cond := .code yX9_ring cX9_ring 7 (some .boolean) :: ([.fieldLink RX9 91 "TileArrayModel" "cells" "I", .fieldLink RX9 81 "TileArrayModel" "values" "[I", .fieldLink RX9 32 "TileArrayModel" "cellRegister" "[Z", .fieldLink RX9 44 "TileArrayModel" "source" "[I", .methodLink RX9 95 yX9_in, .static yX9_in, .initialized RX9, .code yX9_in cX9_in 3 (some .boolean)] ++ wsX90)
def wsX9_lies : List Cond := .code yX9_lies cX9_lies 4 (some .int) :: ([.fieldLink RX9 50 "TileArrayModel" "tileIs" "[I"] ++ wsX90)
def wsX9_span : List Cond := .code yX9_span cX9_span 7 (some .int) :: ([.fieldLink RX9 44 "TileArrayModel" "source" "[I", .methodLink RX9 103 yX9_lies, .instanceMethod yX9_lies, .selects RX9 yX9_lies yX9_lies, .initialized RX9, .code yX9_lies cX9_lies 4 (some .int), .fieldLink RX9 50 "TileArrayModel" "tileIs" "[I"] ++ wsX90)
def wsX9_hasSinks : List Cond := .code yX9_hasSinks cX9_hasSinks 4 (some .boolean) :: ([.fieldLink RX9 44 "TileArrayModel" "source" "[I"] ++ wsX90)
def wsX9_placeCost : List Cond := .code yX9_placeCost cX9_placeCost 3 (some .int) :: ([.methodLink RX9 107 yX9_hasSinks, .instanceMethod yX9_hasSinks, .selects RX9 yX9_hasSinks yX9_hasSinks, .initialized RX9, .code yX9_hasSinks cX9_hasSinks 4 (some .boolean), .fieldLink RX9 44 "TileArrayModel" "source" "[I", .methodLink RX9 110 yX9_span, .instanceMethod yX9_span, .selects RX9 yX9_span yX9_span, .code yX9_span cX9_span 7 (some .int), .methodLink RX9 103 yX9_lies, .instanceMethod yX9_lies, .selects RX9 yX9_lies yX9_lies, .code yX9_lies cX9_lies 4 (some .int), .fieldLink RX9 50 "TileArrayModel" "tileIs" "[I"] ++ wsX90)
def wsX9_put : List Cond := .code yX9_put cX9_put 3 none :: ([.fieldLink RX9 50 "TileArrayModel" "tileIs" "[I", .fieldLink RX9 53 "TileArrayModel" "cellOn" "[I"] ++ wsX90)
def wsX9_exchange : List Cond := .code yX9_exchange cX9_exchange 5 none :: ([.fieldLink RX9 53 "TileArrayModel" "cellOn" "[I", .fieldLink RX9 50 "TileArrayModel" "tileIs" "[I"] ++ wsX90)
def wsX9_isFixed : List Cond := .code yX9_isFixed cX9_isFixed 2 (some .boolean) :: ([.fieldLink RX9 53 "TileArrayModel" "cellOn" "[I", .fieldLink RX9 41 "TileArrayModel" "fixed" "[I"] ++ wsX90)
def wsX9_pass_r1 : List Cond := [Cond.fieldLink RX9 53 "TileArrayModel" "cellOn" "[I", Cond.methodLink RX9 113 yX9_isFixed, Cond.instanceMethod yX9_isFixed, Cond.selects RX9 yX9_isFixed yX9_isFixed, Cond.initialized RX9, Cond.code yX9_isFixed cX9_isFixed 2 (some .boolean), Cond.fieldLink RX9 41 "TileArrayModel" "fixed" "[I", Cond.methodLink RX9 116 yX9_placeCost, Cond.instanceMethod yX9_placeCost, Cond.selects RX9 yX9_placeCost yX9_placeCost, Cond.code yX9_placeCost cX9_placeCost 3 (some .int), Cond.methodLink RX9 107 yX9_hasSinks, Cond.instanceMethod yX9_hasSinks, Cond.selects RX9 yX9_hasSinks yX9_hasSinks, Cond.code yX9_hasSinks cX9_hasSinks 4 (some .boolean), Cond.fieldLink RX9 44 "TileArrayModel" "source" "[I", Cond.methodLink RX9 110 yX9_span, Cond.instanceMethod yX9_span, Cond.selects RX9 yX9_span yX9_span, Cond.code yX9_span cX9_span 7 (some .int), Cond.methodLink RX9 103 yX9_lies, Cond.instanceMethod yX9_lies, Cond.selects RX9 yX9_lies yX9_lies, Cond.code yX9_lies cX9_lies 4 (some .int)]
def wsX9_pass_r2 : List Cond := [Cond.fieldLink RX9 50 "TileArrayModel" "tileIs" "[I", Cond.methodLink RX9 120 yX9_exchange, Cond.instanceMethod yX9_exchange, Cond.selects RX9 yX9_exchange yX9_exchange, Cond.code yX9_exchange cX9_exchange 5 none]
def wsX9_pass : List Cond := .code yX9_pass cX9_pass 5 (some .boolean) :: ((wsX9_pass_r1 ++ wsX9_pass_r2) ++ wsX90)
def wsX9_place_r1 : List Cond := [Cond.fieldLink RX9 53 "TileArrayModel" "cellOn" "[I", Cond.fieldLink RX9 91 "TileArrayModel" "cells" "I", Cond.fieldLink RX9 41 "TileArrayModel" "fixed" "[I", Cond.methodLink RX9 124 yX9_put, Cond.instanceMethod yX9_put, Cond.selects RX9 yX9_put yX9_put, Cond.initialized RX9, Cond.code yX9_put cX9_put 3 none, Cond.fieldLink RX9 50 "TileArrayModel" "tileIs" "[I", Cond.methodLink RX9 127 yX9_pass, Cond.instanceMethod yX9_pass, Cond.selects RX9 yX9_pass yX9_pass, Cond.code yX9_pass cX9_pass 5 (some .boolean), Cond.methodLink RX9 113 yX9_isFixed, Cond.instanceMethod yX9_isFixed, Cond.selects RX9 yX9_isFixed yX9_isFixed, Cond.code yX9_isFixed cX9_isFixed 2 (some .boolean), Cond.methodLink RX9 116 yX9_placeCost, Cond.instanceMethod yX9_placeCost, Cond.selects RX9 yX9_placeCost yX9_placeCost, Cond.code yX9_placeCost cX9_placeCost 3 (some .int), Cond.methodLink RX9 107 yX9_hasSinks, Cond.instanceMethod yX9_hasSinks, Cond.selects RX9 yX9_hasSinks yX9_hasSinks]
def wsX9_place_r2 : List Cond := [Cond.code yX9_hasSinks cX9_hasSinks 4 (some .boolean), Cond.fieldLink RX9 44 "TileArrayModel" "source" "[I", Cond.methodLink RX9 110 yX9_span, Cond.instanceMethod yX9_span, Cond.selects RX9 yX9_span yX9_span, Cond.code yX9_span cX9_span 7 (some .int), Cond.methodLink RX9 103 yX9_lies, Cond.instanceMethod yX9_lies, Cond.selects RX9 yX9_lies yX9_lies, Cond.code yX9_lies cX9_lies 4 (some .int), Cond.methodLink RX9 120 yX9_exchange, Cond.instanceMethod yX9_exchange, Cond.selects RX9 yX9_exchange yX9_exchange, Cond.code yX9_exchange cX9_exchange 5 none]
def wsX9_place : List Cond := .code yX9_place cX9_place 3 none :: ((wsX9_place_r1 ++ wsX9_place_r2) ++ wsX90)
def wsX9_price : List Cond := .code yX9_price cX9_price 2 (some .int) :: ([.fieldLink RX9 62 "TileArrayModel" "tree" "[Z", .fieldLink RX9 56 "TileArrayModel" "uses" "[I", .fieldLink RX9 59 "TileArrayModel" "history" "[I"] ++ wsX90)
def wsX9_leastBehind : List Cond := .code yX9_leastBehind cX9_leastBehind 5 (some .int) :: ([.constant RX9 131 (1000000), .fieldLink RX9 65 "TileArrayModel" "least" "[I", .methodLink RX9 132 yX9_behindChannel, .static yX9_behindChannel, .initialized RX9, .code yX9_behindChannel cX9_behindChannel 4 (some .int), .methodLink RX9 88 yX9_comesIn, .static yX9_comesIn, .code yX9_comesIn cX9_comesIn 6 (some .int), .methodLink RX9 84 yX9_channel, .static yX9_channel, .code yX9_channel cX9_channel 3 (some .int)] ++ wsX90)
def wsX9_relax_r1 : List Cond := [Cond.fieldLink RX9 65 "TileArrayModel" "least" "[I", Cond.fieldLink RX9 62 "TileArrayModel" "tree" "[Z", Cond.constant RX9 131 (1000000), Cond.methodLink RX9 136 yX9_wireOf, Cond.static yX9_wireOf, Cond.initialized RX9, Cond.code yX9_wireOf cX9_wireOf 1 (some .int), Cond.methodLink RX9 140 yX9_leastBehind, Cond.instanceMethod yX9_leastBehind, Cond.selects RX9 yX9_leastBehind yX9_leastBehind, Cond.code yX9_leastBehind cX9_leastBehind 5 (some .int), Cond.methodLink RX9 132 yX9_behindChannel, Cond.static yX9_behindChannel, Cond.code yX9_behindChannel cX9_behindChannel 4 (some .int), Cond.methodLink RX9 88 yX9_comesIn, Cond.static yX9_comesIn, Cond.code yX9_comesIn cX9_comesIn 6 (some .int), Cond.methodLink RX9 84 yX9_channel, Cond.static yX9_channel, Cond.code yX9_channel cX9_channel 3 (some .int), Cond.methodLink RX9 143 yX9_price, Cond.instanceMethod yX9_price, Cond.selects RX9 yX9_price yX9_price, Cond.code yX9_price cX9_price 2 (some .int)]
def wsX9_relax_r2 : List Cond := [Cond.fieldLink RX9 56 "TileArrayModel" "uses" "[I", Cond.fieldLink RX9 59 "TileArrayModel" "history" "[I"]
def wsX9_relax : List Cond := .code yX9_relax cX9_relax 5 none :: ((wsX9_relax_r1 ++ wsX9_relax_r2) ++ wsX90)
def wsX9_follow : List Cond := .code yX9_follow cX9_follow 9 none :: ([.fieldLink RX9 62 "TileArrayModel" "tree" "[Z", .fieldLink RX9 65 "TileArrayModel" "least" "[I", .fieldLink RX9 71 "TileArrayModel" "newChannel" "[I", .methodLink RX9 146 yX9_channelOf, .static yX9_channelOf, .initialized RX9, .code yX9_channelOf cX9_channelOf 1 (some .int), .methodLink RX9 132 yX9_behindChannel, .static yX9_behindChannel, .code yX9_behindChannel cX9_behindChannel 4 (some .int), .methodLink RX9 88 yX9_comesIn, .static yX9_comesIn, .code yX9_comesIn cX9_comesIn 6 (some .int), .methodLink RX9 84 yX9_channel, .static yX9_channel, .code yX9_channel cX9_channel 3 (some .int), .methodLink RX9 143 yX9_price, .instanceMethod yX9_price, .selects RX9 yX9_price yX9_price, .code yX9_price cX9_price 2 (some .int), .fieldLink RX9 56 "TileArrayModel" "uses" "[I", .fieldLink RX9 59 "TileArrayModel" "history" "[I"] ++ wsX90)
def wsX9_reach_r1 : List Cond := [Cond.fieldLink RX9 65 "TileArrayModel" "least" "[I", Cond.constant RX9 131 (1000000), Cond.fieldLink RX9 50 "TileArrayModel" "tileIs" "[I", Cond.fieldLink RX9 68 "TileArrayModel" "newPin" "[I", Cond.methodLink RX9 149 yX9_relax, Cond.instanceMethod yX9_relax, Cond.selects RX9 yX9_relax yX9_relax, Cond.initialized RX9, Cond.code yX9_relax cX9_relax 5 none, Cond.fieldLink RX9 62 "TileArrayModel" "tree" "[Z", Cond.methodLink RX9 136 yX9_wireOf, Cond.static yX9_wireOf, Cond.code yX9_wireOf cX9_wireOf 1 (some .int), Cond.methodLink RX9 140 yX9_leastBehind, Cond.instanceMethod yX9_leastBehind, Cond.selects RX9 yX9_leastBehind yX9_leastBehind, Cond.code yX9_leastBehind cX9_leastBehind 5 (some .int), Cond.methodLink RX9 132 yX9_behindChannel, Cond.static yX9_behindChannel, Cond.code yX9_behindChannel cX9_behindChannel 4 (some .int), Cond.methodLink RX9 88 yX9_comesIn, Cond.static yX9_comesIn, Cond.code yX9_comesIn cX9_comesIn 6 (some .int), Cond.methodLink RX9 84 yX9_channel]
def wsX9_reach_r2 : List Cond := [Cond.static yX9_channel, Cond.code yX9_channel cX9_channel 3 (some .int), Cond.methodLink RX9 143 yX9_price, Cond.instanceMethod yX9_price, Cond.selects RX9 yX9_price yX9_price, Cond.code yX9_price cX9_price 2 (some .int), Cond.fieldLink RX9 56 "TileArrayModel" "uses" "[I", Cond.fieldLink RX9 59 "TileArrayModel" "history" "[I", Cond.methodLink RX9 152 yX9_outputWire, Cond.static yX9_outputWire, Cond.code yX9_outputWire cX9_outputWire 1 (some .int), Cond.methodLink RX9 155 yX9_follow, Cond.instanceMethod yX9_follow, Cond.selects RX9 yX9_follow yX9_follow, Cond.code yX9_follow cX9_follow 9 none, Cond.fieldLink RX9 71 "TileArrayModel" "newChannel" "[I", Cond.methodLink RX9 146 yX9_channelOf, Cond.static yX9_channelOf, Cond.code yX9_channelOf cX9_channelOf 1 (some .int), Cond.methodLink RX9 159 yX9_behindPin, Cond.static yX9_behindPin, Cond.code yX9_behindPin cX9_behindPin 3 (some .int)]
def wsX9_reach : List Cond := .code yX9_reach cX9_reach 9 (some .boolean) :: ((wsX9_reach_r1 ++ wsX9_reach_r2) ++ wsX90)
def wsX9_routeNet_r1 : List Cond := [Cond.fieldLink RX9 62 "TileArrayModel" "tree" "[Z", Cond.fieldLink RX9 50 "TileArrayModel" "tileIs" "[I", Cond.fieldLink RX9 44 "TileArrayModel" "source" "[I", Cond.fieldLink RX9 56 "TileArrayModel" "uses" "[I", Cond.methodLink RX9 162 yX9_reach, Cond.instanceMethod yX9_reach, Cond.selects RX9 yX9_reach yX9_reach, Cond.initialized RX9, Cond.code yX9_reach cX9_reach 9 (some .boolean), Cond.fieldLink RX9 65 "TileArrayModel" "least" "[I", Cond.constant RX9 131 (1000000), Cond.fieldLink RX9 68 "TileArrayModel" "newPin" "[I", Cond.methodLink RX9 149 yX9_relax, Cond.instanceMethod yX9_relax, Cond.selects RX9 yX9_relax yX9_relax, Cond.code yX9_relax cX9_relax 5 none, Cond.methodLink RX9 136 yX9_wireOf, Cond.static yX9_wireOf, Cond.code yX9_wireOf cX9_wireOf 1 (some .int), Cond.methodLink RX9 140 yX9_leastBehind, Cond.instanceMethod yX9_leastBehind, Cond.selects RX9 yX9_leastBehind yX9_leastBehind, Cond.code yX9_leastBehind cX9_leastBehind 5 (some .int), Cond.methodLink RX9 132 yX9_behindChannel]
def wsX9_routeNet_r2 : List Cond := [Cond.static yX9_behindChannel, Cond.code yX9_behindChannel cX9_behindChannel 4 (some .int), Cond.methodLink RX9 88 yX9_comesIn, Cond.static yX9_comesIn, Cond.code yX9_comesIn cX9_comesIn 6 (some .int), Cond.methodLink RX9 84 yX9_channel, Cond.static yX9_channel, Cond.code yX9_channel cX9_channel 3 (some .int), Cond.methodLink RX9 143 yX9_price, Cond.instanceMethod yX9_price, Cond.selects RX9 yX9_price yX9_price, Cond.code yX9_price cX9_price 2 (some .int), Cond.fieldLink RX9 59 "TileArrayModel" "history" "[I", Cond.methodLink RX9 152 yX9_outputWire, Cond.static yX9_outputWire, Cond.code yX9_outputWire cX9_outputWire 1 (some .int), Cond.methodLink RX9 155 yX9_follow, Cond.instanceMethod yX9_follow, Cond.selects RX9 yX9_follow yX9_follow, Cond.code yX9_follow cX9_follow 9 none, Cond.fieldLink RX9 71 "TileArrayModel" "newChannel" "[I", Cond.methodLink RX9 146 yX9_channelOf, Cond.static yX9_channelOf, Cond.code yX9_channelOf cX9_channelOf 1 (some .int)]
def wsX9_routeNet_r3 : List Cond := [Cond.methodLink RX9 159 yX9_behindPin, Cond.static yX9_behindPin, Cond.code yX9_behindPin cX9_behindPin 3 (some .int)]
def wsX9_routeNet : List Cond := .code yX9_routeNet cX9_routeNet 4 (some .boolean) :: ((wsX9_routeNet_r1 ++ (wsX9_routeNet_r2 ++ wsX9_routeNet_r3)) ++ wsX90)
def wsX9_round_r1 : List Cond := [Cond.fieldLink RX9 56 "TileArrayModel" "uses" "[I", Cond.fieldLink RX9 68 "TileArrayModel" "newPin" "[I", Cond.fieldLink RX9 71 "TileArrayModel" "newChannel" "[I", Cond.fieldLink RX9 59 "TileArrayModel" "history" "[I", Cond.methodLink RX9 107 yX9_hasSinks, Cond.instanceMethod yX9_hasSinks, Cond.selects RX9 yX9_hasSinks yX9_hasSinks, Cond.initialized RX9, Cond.code yX9_hasSinks cX9_hasSinks 4 (some .boolean), Cond.fieldLink RX9 44 "TileArrayModel" "source" "[I", Cond.methodLink RX9 165 yX9_routeNet, Cond.instanceMethod yX9_routeNet, Cond.selects RX9 yX9_routeNet yX9_routeNet, Cond.code yX9_routeNet cX9_routeNet 4 (some .boolean), Cond.fieldLink RX9 62 "TileArrayModel" "tree" "[Z", Cond.fieldLink RX9 50 "TileArrayModel" "tileIs" "[I", Cond.methodLink RX9 162 yX9_reach, Cond.instanceMethod yX9_reach, Cond.selects RX9 yX9_reach yX9_reach, Cond.code yX9_reach cX9_reach 9 (some .boolean), Cond.fieldLink RX9 65 "TileArrayModel" "least" "[I", Cond.constant RX9 131 (1000000), Cond.methodLink RX9 149 yX9_relax, Cond.instanceMethod yX9_relax]
def wsX9_round_r2 : List Cond := [Cond.selects RX9 yX9_relax yX9_relax, Cond.code yX9_relax cX9_relax 5 none, Cond.methodLink RX9 136 yX9_wireOf, Cond.static yX9_wireOf, Cond.code yX9_wireOf cX9_wireOf 1 (some .int), Cond.methodLink RX9 140 yX9_leastBehind, Cond.instanceMethod yX9_leastBehind, Cond.selects RX9 yX9_leastBehind yX9_leastBehind, Cond.code yX9_leastBehind cX9_leastBehind 5 (some .int), Cond.methodLink RX9 132 yX9_behindChannel, Cond.static yX9_behindChannel, Cond.code yX9_behindChannel cX9_behindChannel 4 (some .int), Cond.methodLink RX9 88 yX9_comesIn, Cond.static yX9_comesIn, Cond.code yX9_comesIn cX9_comesIn 6 (some .int), Cond.methodLink RX9 84 yX9_channel, Cond.static yX9_channel, Cond.code yX9_channel cX9_channel 3 (some .int), Cond.methodLink RX9 143 yX9_price, Cond.instanceMethod yX9_price, Cond.selects RX9 yX9_price yX9_price, Cond.code yX9_price cX9_price 2 (some .int), Cond.methodLink RX9 152 yX9_outputWire, Cond.static yX9_outputWire]
def wsX9_round_r3 : List Cond := [Cond.code yX9_outputWire cX9_outputWire 1 (some .int), Cond.methodLink RX9 155 yX9_follow, Cond.instanceMethod yX9_follow, Cond.selects RX9 yX9_follow yX9_follow, Cond.code yX9_follow cX9_follow 9 none, Cond.methodLink RX9 146 yX9_channelOf, Cond.static yX9_channelOf, Cond.code yX9_channelOf cX9_channelOf 1 (some .int), Cond.methodLink RX9 159 yX9_behindPin, Cond.static yX9_behindPin, Cond.code yX9_behindPin cX9_behindPin 3 (some .int)]
def wsX9_round : List Cond := .code yX9_round cX9_round 3 (some .int) :: ((wsX9_round_r1 ++ (wsX9_round_r2 ++ wsX9_round_r3)) ++ wsX90)
def wsX9_makeBits_r1 : List Cond := [Cond.fieldLink RX9 53 "TileArrayModel" "cellOn" "[I", Cond.fieldLink RX9 32 "TileArrayModel" "cellRegister" "[Z", Cond.fieldLink RX9 26 "TileArrayModel" "state" "[I", Cond.fieldLink RX9 13 "TileArrayModel" "register" "[Z", Cond.fieldLink RX9 7 "TileArrayModel" "table" "[I", Cond.fieldLink RX9 29 "TileArrayModel" "cellTable" "[I", Cond.fieldLink RX9 17 "TileArrayModel" "first" "[Z", Cond.fieldLink RX9 35 "TileArrayModel" "cellFirst" "[Z", Cond.fieldLink RX9 20 "TileArrayModel" "pinSwitch" "[I", Cond.fieldLink RX9 68 "TileArrayModel" "newPin" "[I", Cond.fieldLink RX9 23 "TileArrayModel" "channelSwitch" "[I", Cond.fieldLink RX9 71 "TileArrayModel" "newChannel" "[I", Cond.fieldLink RX9 91 "TileArrayModel" "cells" "I", Cond.fieldLink RX9 168 "TileArrayModel" "built" "I", Cond.fieldLink RX9 171 "TileArrayModel" "builtCost" "I", Cond.fieldLink RX9 47 "TileArrayModel" "builtTile" "[I", Cond.fieldLink RX9 50 "TileArrayModel" "tileIs" "[I", Cond.methodLink RX9 116 yX9_placeCost, Cond.instanceMethod yX9_placeCost, Cond.selects RX9 yX9_placeCost yX9_placeCost, Cond.initialized RX9, Cond.code yX9_placeCost cX9_placeCost 3 (some .int), Cond.methodLink RX9 107 yX9_hasSinks, Cond.instanceMethod yX9_hasSinks]
def wsX9_makeBits_r2 : List Cond := [Cond.selects RX9 yX9_hasSinks yX9_hasSinks, Cond.code yX9_hasSinks cX9_hasSinks 4 (some .boolean), Cond.fieldLink RX9 44 "TileArrayModel" "source" "[I", Cond.methodLink RX9 110 yX9_span, Cond.instanceMethod yX9_span, Cond.selects RX9 yX9_span yX9_span, Cond.code yX9_span cX9_span 7 (some .int), Cond.methodLink RX9 103 yX9_lies, Cond.instanceMethod yX9_lies, Cond.selects RX9 yX9_lies yX9_lies, Cond.code yX9_lies cX9_lies 4 (some .int)]
def wsX9_makeBits : List Cond := .code yX9_makeBits cX9_makeBits 4 none :: ((wsX9_makeBits_r1 ++ wsX9_makeBits_r2) ++ wsX90)
def wsX9_build_r1 : List Cond := [Cond.fieldLink RX9 91 "TileArrayModel" "cells" "I", Cond.fieldLink RX9 59 "TileArrayModel" "history" "[I", Cond.methodLink RX9 174 yX9_ring, Cond.instanceMethod yX9_ring, Cond.selects RX9 yX9_ring yX9_ring, Cond.initialized RX9, Cond.code yX9_ring cX9_ring 7 (some .boolean), Cond.fieldLink RX9 81 "TileArrayModel" "values" "[I", Cond.fieldLink RX9 32 "TileArrayModel" "cellRegister" "[Z", Cond.fieldLink RX9 44 "TileArrayModel" "source" "[I", Cond.methodLink RX9 95 yX9_in, Cond.static yX9_in, Cond.code yX9_in cX9_in 3 (some .boolean), Cond.methodLink RX9 177 yX9_place, Cond.instanceMethod yX9_place, Cond.selects RX9 yX9_place yX9_place, Cond.code yX9_place cX9_place 3 none, Cond.fieldLink RX9 53 "TileArrayModel" "cellOn" "[I", Cond.fieldLink RX9 41 "TileArrayModel" "fixed" "[I", Cond.methodLink RX9 124 yX9_put, Cond.instanceMethod yX9_put, Cond.selects RX9 yX9_put yX9_put, Cond.code yX9_put cX9_put 3 none, Cond.fieldLink RX9 50 "TileArrayModel" "tileIs" "[I"]
def wsX9_build_r2 : List Cond := [Cond.methodLink RX9 127 yX9_pass, Cond.instanceMethod yX9_pass, Cond.selects RX9 yX9_pass yX9_pass, Cond.code yX9_pass cX9_pass 5 (some .boolean), Cond.methodLink RX9 113 yX9_isFixed, Cond.instanceMethod yX9_isFixed, Cond.selects RX9 yX9_isFixed yX9_isFixed, Cond.code yX9_isFixed cX9_isFixed 2 (some .boolean), Cond.methodLink RX9 116 yX9_placeCost, Cond.instanceMethod yX9_placeCost, Cond.selects RX9 yX9_placeCost yX9_placeCost, Cond.code yX9_placeCost cX9_placeCost 3 (some .int), Cond.methodLink RX9 107 yX9_hasSinks, Cond.instanceMethod yX9_hasSinks, Cond.selects RX9 yX9_hasSinks yX9_hasSinks, Cond.code yX9_hasSinks cX9_hasSinks 4 (some .boolean), Cond.methodLink RX9 110 yX9_span, Cond.instanceMethod yX9_span, Cond.selects RX9 yX9_span yX9_span, Cond.code yX9_span cX9_span 7 (some .int), Cond.methodLink RX9 103 yX9_lies, Cond.instanceMethod yX9_lies, Cond.selects RX9 yX9_lies yX9_lies, Cond.code yX9_lies cX9_lies 4 (some .int)]
def wsX9_build_r3 : List Cond := [Cond.methodLink RX9 120 yX9_exchange, Cond.instanceMethod yX9_exchange, Cond.selects RX9 yX9_exchange yX9_exchange, Cond.code yX9_exchange cX9_exchange 5 none, Cond.methodLink RX9 180 yX9_round, Cond.instanceMethod yX9_round, Cond.selects RX9 yX9_round yX9_round, Cond.code yX9_round cX9_round 3 (some .int), Cond.fieldLink RX9 56 "TileArrayModel" "uses" "[I", Cond.fieldLink RX9 68 "TileArrayModel" "newPin" "[I", Cond.fieldLink RX9 71 "TileArrayModel" "newChannel" "[I", Cond.methodLink RX9 165 yX9_routeNet, Cond.instanceMethod yX9_routeNet, Cond.selects RX9 yX9_routeNet yX9_routeNet, Cond.code yX9_routeNet cX9_routeNet 4 (some .boolean), Cond.fieldLink RX9 62 "TileArrayModel" "tree" "[Z", Cond.methodLink RX9 162 yX9_reach, Cond.instanceMethod yX9_reach, Cond.selects RX9 yX9_reach yX9_reach, Cond.code yX9_reach cX9_reach 9 (some .boolean), Cond.fieldLink RX9 65 "TileArrayModel" "least" "[I", Cond.constant RX9 131 (1000000), Cond.methodLink RX9 149 yX9_relax, Cond.instanceMethod yX9_relax]
def wsX9_build_r4 : List Cond := [Cond.selects RX9 yX9_relax yX9_relax, Cond.code yX9_relax cX9_relax 5 none, Cond.methodLink RX9 136 yX9_wireOf, Cond.static yX9_wireOf, Cond.code yX9_wireOf cX9_wireOf 1 (some .int), Cond.methodLink RX9 140 yX9_leastBehind, Cond.instanceMethod yX9_leastBehind, Cond.selects RX9 yX9_leastBehind yX9_leastBehind, Cond.code yX9_leastBehind cX9_leastBehind 5 (some .int), Cond.methodLink RX9 132 yX9_behindChannel, Cond.static yX9_behindChannel, Cond.code yX9_behindChannel cX9_behindChannel 4 (some .int), Cond.methodLink RX9 88 yX9_comesIn, Cond.static yX9_comesIn, Cond.code yX9_comesIn cX9_comesIn 6 (some .int), Cond.methodLink RX9 84 yX9_channel, Cond.static yX9_channel, Cond.code yX9_channel cX9_channel 3 (some .int), Cond.methodLink RX9 143 yX9_price, Cond.instanceMethod yX9_price, Cond.selects RX9 yX9_price yX9_price, Cond.code yX9_price cX9_price 2 (some .int), Cond.methodLink RX9 152 yX9_outputWire, Cond.static yX9_outputWire]
def wsX9_build_r5 : List Cond := [Cond.code yX9_outputWire cX9_outputWire 1 (some .int), Cond.methodLink RX9 155 yX9_follow, Cond.instanceMethod yX9_follow, Cond.selects RX9 yX9_follow yX9_follow, Cond.code yX9_follow cX9_follow 9 none, Cond.methodLink RX9 146 yX9_channelOf, Cond.static yX9_channelOf, Cond.code yX9_channelOf cX9_channelOf 1 (some .int), Cond.methodLink RX9 159 yX9_behindPin, Cond.static yX9_behindPin, Cond.code yX9_behindPin cX9_behindPin 3 (some .int), Cond.methodLink RX9 183 yX9_makeBits, Cond.instanceMethod yX9_makeBits, Cond.selects RX9 yX9_makeBits yX9_makeBits, Cond.code yX9_makeBits cX9_makeBits 4 none, Cond.fieldLink RX9 26 "TileArrayModel" "state" "[I", Cond.fieldLink RX9 13 "TileArrayModel" "register" "[Z", Cond.fieldLink RX9 7 "TileArrayModel" "table" "[I", Cond.fieldLink RX9 29 "TileArrayModel" "cellTable" "[I", Cond.fieldLink RX9 17 "TileArrayModel" "first" "[Z", Cond.fieldLink RX9 35 "TileArrayModel" "cellFirst" "[Z", Cond.fieldLink RX9 20 "TileArrayModel" "pinSwitch" "[I", Cond.fieldLink RX9 23 "TileArrayModel" "channelSwitch" "[I", Cond.fieldLink RX9 168 "TileArrayModel" "built" "I"]
def wsX9_build_r6 : List Cond := [Cond.fieldLink RX9 171 "TileArrayModel" "builtCost" "I", Cond.fieldLink RX9 47 "TileArrayModel" "builtTile" "[I"]
def wsX9_build : List Cond := .code yX9_build cX9_build 3 (some .int) :: ((wsX9_build_r1 ++ (wsX9_build_r2 ++ (wsX9_build_r3 ++ (wsX9_build_r4 ++ (wsX9_build_r5 ++ wsX9_build_r6))))) ++ wsX90)
def wsX9_tileOf : List Cond := .code yX9_tileOf cX9_tileOf 2 (some .int) :: ([.fieldLink RX9 168 "TileArrayModel" "built" "I", .fieldLink RX9 47 "TileArrayModel" "builtTile" "[I", .methodLink RX9 95 yX9_in, .static yX9_in, .initialized RX9, .code yX9_in cX9_in 3 (some .boolean)] ++ wsX90)
def wsX9_cost : List Cond := .code yX9_cost cX9_cost 1 (some .int) :: ([.fieldLink RX9 171 "TileArrayModel" "builtCost" "I"] ++ wsX90)
def wsX9_bits : List Cond := .code yX9_bits cX9_bits 5 (some .long) :: ([.fieldLink RX9 7 "TileArrayModel" "table" "[I", .fieldLink RX9 13 "TileArrayModel" "register" "[Z", .constantLong RX9 186 (256), .fieldLink RX9 17 "TileArrayModel" "first" "[Z", .constantLong RX9 188 (512), .fieldLink RX9 20 "TileArrayModel" "pinSwitch" "[I", .fieldLink RX9 23 "TileArrayModel" "channelSwitch" "[I", .methodLink RX9 95 yX9_in, .static yX9_in, .initialized RX9, .code yX9_in cX9_in 3 (some .boolean)] ++ wsX90)
def wsX9_load : List Cond := .code yX9_load cX9_load 7 (some .boolean) :: ([.constantLong RX9 190 (15), .constantLong RX9 192 (9), .constantLong RX9 194 (7), .constantLong RX9 196 (4), .fieldLink RX9 26 "TileArrayModel" "state" "[I", .fieldLink RX9 13 "TileArrayModel" "register" "[Z", .fieldLink RX9 7 "TileArrayModel" "table" "[I", .constantLong RX9 198 (255), .fieldLink RX9 17 "TileArrayModel" "first" "[Z", .fieldLink RX9 20 "TileArrayModel" "pinSwitch" "[I", .fieldLink RX9 23 "TileArrayModel" "channelSwitch" "[I", .methodLink RX9 95 yX9_in, .static yX9_in, .initialized RX9, .code yX9_in cX9_in 3 (some .boolean)] ++ wsX90)
def wsX9_checkSum : List Cond := .code yX9_checkSum cX9_checkSum 7 (some .int) :: ([.constant RX9 200 (65535), .methodLink RX9 201 yX9_bits, .instanceMethod yX9_bits, .selects RX9 yX9_bits yX9_bits, .initialized RX9, .code yX9_bits cX9_bits 5 (some .long), .fieldLink RX9 7 "TileArrayModel" "table" "[I", .fieldLink RX9 13 "TileArrayModel" "register" "[Z", .constantLong RX9 186 (256), .fieldLink RX9 17 "TileArrayModel" "first" "[Z", .constantLong RX9 188 (512), .fieldLink RX9 20 "TileArrayModel" "pinSwitch" "[I", .fieldLink RX9 23 "TileArrayModel" "channelSwitch" "[I", .methodLink RX9 95 yX9_in, .static yX9_in, .code yX9_in cX9_in 3 (some .boolean)] ++ wsX90)
def wsX9_comesFrom : List Cond := .code yX9_comesFrom cX9_comesFrom 4 (some .int) :: ([.fieldLink RX9 74 "TileArrayModel" "seen" "[Z", .fieldLink RX9 205 "TileArrayModel" "passed" "I", .fieldLink RX9 23 "TileArrayModel" "channelSwitch" "[I", .methodLink RX9 146 yX9_channelOf, .static yX9_channelOf, .initialized RX9, .code yX9_channelOf cX9_channelOf 1 (some .int), .methodLink RX9 132 yX9_behindChannel, .static yX9_behindChannel, .code yX9_behindChannel cX9_behindChannel 4 (some .int), .methodLink RX9 88 yX9_comesIn, .static yX9_comesIn, .code yX9_comesIn cX9_comesIn 6 (some .int), .methodLink RX9 84 yX9_channel, .static yX9_channel, .code yX9_channel cX9_channel 3 (some .int)] ++ wsX90)
def wsX9_gets : List Cond := .code yX9_gets cX9_gets 2 (some .int) :: ([.fieldLink RX9 20 "TileArrayModel" "pinSwitch" "[I", .methodLink RX9 159 yX9_behindPin, .static yX9_behindPin, .initialized RX9, .code yX9_behindPin cX9_behindPin 3 (some .int), .methodLink RX9 88 yX9_comesIn, .static yX9_comesIn, .code yX9_comesIn cX9_comesIn 6 (some .int), .methodLink RX9 84 yX9_channel, .static yX9_channel, .code yX9_channel cX9_channel 3 (some .int), .methodLink RX9 208 yX9_comesFrom, .instanceMethod yX9_comesFrom, .selects RX9 yX9_comesFrom yX9_comesFrom, .code yX9_comesFrom cX9_comesFrom 4 (some .int), .fieldLink RX9 74 "TileArrayModel" "seen" "[Z", .fieldLink RX9 205 "TileArrayModel" "passed" "I", .fieldLink RX9 23 "TileArrayModel" "channelSwitch" "[I", .methodLink RX9 146 yX9_channelOf, .static yX9_channelOf, .code yX9_channelOf cX9_channelOf 1 (some .int), .methodLink RX9 132 yX9_behindChannel, .static yX9_behindChannel, .code yX9_behindChannel cX9_behindChannel 4 (some .int)] ++ wsX90)
def wsX9_pin_r1 : List Cond := [Cond.methodLink RX9 95 yX9_in, Cond.static yX9_in, Cond.initialized RX9, Cond.code yX9_in cX9_in 3 (some .boolean), Cond.methodLink RX9 211 yX9_gets, Cond.instanceMethod yX9_gets, Cond.selects RX9 yX9_gets yX9_gets, Cond.code yX9_gets cX9_gets 2 (some .int), Cond.fieldLink RX9 20 "TileArrayModel" "pinSwitch" "[I", Cond.methodLink RX9 159 yX9_behindPin, Cond.static yX9_behindPin, Cond.code yX9_behindPin cX9_behindPin 3 (some .int), Cond.methodLink RX9 88 yX9_comesIn, Cond.static yX9_comesIn, Cond.code yX9_comesIn cX9_comesIn 6 (some .int), Cond.methodLink RX9 84 yX9_channel, Cond.static yX9_channel, Cond.code yX9_channel cX9_channel 3 (some .int), Cond.methodLink RX9 208 yX9_comesFrom, Cond.instanceMethod yX9_comesFrom, Cond.selects RX9 yX9_comesFrom yX9_comesFrom, Cond.code yX9_comesFrom cX9_comesFrom 4 (some .int), Cond.fieldLink RX9 74 "TileArrayModel" "seen" "[Z", Cond.fieldLink RX9 205 "TileArrayModel" "passed" "I"]
def wsX9_pin_r2 : List Cond := [Cond.fieldLink RX9 23 "TileArrayModel" "channelSwitch" "[I", Cond.methodLink RX9 146 yX9_channelOf, Cond.static yX9_channelOf, Cond.code yX9_channelOf cX9_channelOf 1 (some .int), Cond.methodLink RX9 132 yX9_behindChannel, Cond.static yX9_behindChannel, Cond.code yX9_behindChannel cX9_behindChannel 4 (some .int)]
def wsX9_pin : List Cond := .code yX9_pin cX9_pin 3 (some .int) :: ((wsX9_pin_r1 ++ wsX9_pin_r2) ++ wsX90)
def wsX9_outputOf_r1 : List Cond := [Cond.methodLink RX9 95 yX9_in, Cond.static yX9_in, Cond.initialized RX9, Cond.code yX9_in cX9_in 3 (some .boolean), Cond.methodLink RX9 152 yX9_outputWire, Cond.static yX9_outputWire, Cond.code yX9_outputWire cX9_outputWire 1 (some .int), Cond.methodLink RX9 84 yX9_channel, Cond.static yX9_channel, Cond.code yX9_channel cX9_channel 3 (some .int), Cond.methodLink RX9 208 yX9_comesFrom, Cond.instanceMethod yX9_comesFrom, Cond.selects RX9 yX9_comesFrom yX9_comesFrom, Cond.code yX9_comesFrom cX9_comesFrom 4 (some .int), Cond.fieldLink RX9 74 "TileArrayModel" "seen" "[Z", Cond.fieldLink RX9 205 "TileArrayModel" "passed" "I", Cond.fieldLink RX9 23 "TileArrayModel" "channelSwitch" "[I", Cond.methodLink RX9 146 yX9_channelOf, Cond.static yX9_channelOf, Cond.code yX9_channelOf cX9_channelOf 1 (some .int), Cond.methodLink RX9 132 yX9_behindChannel, Cond.static yX9_behindChannel, Cond.code yX9_behindChannel cX9_behindChannel 4 (some .int), Cond.methodLink RX9 88 yX9_comesIn]
def wsX9_outputOf_r2 : List Cond := [Cond.static yX9_comesIn, Cond.code yX9_comesIn cX9_comesIn 6 (some .int)]
def wsX9_outputOf : List Cond := .code yX9_outputOf cX9_outputOf 2 (some .int) :: ((wsX9_outputOf_r1 ++ wsX9_outputOf_r2) ++ wsX90)
def wsX9_channels_r1 : List Cond := [Cond.fieldLink RX9 205 "TileArrayModel" "passed" "I", Cond.methodLink RX9 214 yX9_pin, Cond.instanceMethod yX9_pin, Cond.selects RX9 yX9_pin yX9_pin, Cond.initialized RX9, Cond.code yX9_pin cX9_pin 3 (some .int), Cond.methodLink RX9 95 yX9_in, Cond.static yX9_in, Cond.code yX9_in cX9_in 3 (some .boolean), Cond.methodLink RX9 211 yX9_gets, Cond.instanceMethod yX9_gets, Cond.selects RX9 yX9_gets yX9_gets, Cond.code yX9_gets cX9_gets 2 (some .int), Cond.fieldLink RX9 20 "TileArrayModel" "pinSwitch" "[I", Cond.methodLink RX9 159 yX9_behindPin, Cond.static yX9_behindPin, Cond.code yX9_behindPin cX9_behindPin 3 (some .int), Cond.methodLink RX9 88 yX9_comesIn, Cond.static yX9_comesIn, Cond.code yX9_comesIn cX9_comesIn 6 (some .int), Cond.methodLink RX9 84 yX9_channel, Cond.static yX9_channel, Cond.code yX9_channel cX9_channel 3 (some .int), Cond.methodLink RX9 208 yX9_comesFrom]
def wsX9_channels_r2 : List Cond := [Cond.instanceMethod yX9_comesFrom, Cond.selects RX9 yX9_comesFrom yX9_comesFrom, Cond.code yX9_comesFrom cX9_comesFrom 4 (some .int), Cond.fieldLink RX9 74 "TileArrayModel" "seen" "[Z", Cond.fieldLink RX9 23 "TileArrayModel" "channelSwitch" "[I", Cond.methodLink RX9 146 yX9_channelOf, Cond.static yX9_channelOf, Cond.code yX9_channelOf cX9_channelOf 1 (some .int), Cond.methodLink RX9 132 yX9_behindChannel, Cond.static yX9_behindChannel, Cond.code yX9_behindChannel cX9_behindChannel 4 (some .int)]
def wsX9_channels : List Cond := .code yX9_channels cX9_channels 3 (some .int) :: ((wsX9_channels_r1 ++ wsX9_channels_r2) ++ wsX90)
def wsX9_arrives : List Cond := .code yX9_arrives cX9_arrives 4 (some .double) :: ([.fieldLink RX9 77 "TileArrayModel" "times" "[D", .constantDouble RX9 217 (4600427019358961664), .fieldLink RX9 205 "TileArrayModel" "passed" "I"] ++ wsX90)
def wsX9_latest_r1 : List Cond := [Cond.constantDouble RX9 219 (13830554455654793216), Cond.methodLink RX9 211 yX9_gets, Cond.instanceMethod yX9_gets, Cond.selects RX9 yX9_gets yX9_gets, Cond.initialized RX9, Cond.code yX9_gets cX9_gets 2 (some .int), Cond.fieldLink RX9 20 "TileArrayModel" "pinSwitch" "[I", Cond.methodLink RX9 159 yX9_behindPin, Cond.static yX9_behindPin, Cond.code yX9_behindPin cX9_behindPin 3 (some .int), Cond.methodLink RX9 88 yX9_comesIn, Cond.static yX9_comesIn, Cond.code yX9_comesIn cX9_comesIn 6 (some .int), Cond.methodLink RX9 84 yX9_channel, Cond.static yX9_channel, Cond.code yX9_channel cX9_channel 3 (some .int), Cond.methodLink RX9 208 yX9_comesFrom, Cond.instanceMethod yX9_comesFrom, Cond.selects RX9 yX9_comesFrom yX9_comesFrom, Cond.code yX9_comesFrom cX9_comesFrom 4 (some .int), Cond.fieldLink RX9 74 "TileArrayModel" "seen" "[Z", Cond.fieldLink RX9 205 "TileArrayModel" "passed" "I", Cond.fieldLink RX9 23 "TileArrayModel" "channelSwitch" "[I", Cond.methodLink RX9 146 yX9_channelOf]
def wsX9_latest_r2 : List Cond := [Cond.static yX9_channelOf, Cond.code yX9_channelOf cX9_channelOf 1 (some .int), Cond.methodLink RX9 132 yX9_behindChannel, Cond.static yX9_behindChannel, Cond.code yX9_behindChannel cX9_behindChannel 4 (some .int), Cond.methodLink RX9 221 yX9_arrives, Cond.instanceMethod yX9_arrives, Cond.selects RX9 yX9_arrives yX9_arrives, Cond.code yX9_arrives cX9_arrives 4 (some .double), Cond.fieldLink RX9 77 "TileArrayModel" "times" "[D", Cond.constantDouble RX9 217 (4600427019358961664)]
def wsX9_latest : List Cond := .code yX9_latest cX9_latest 8 (some .double) :: ((wsX9_latest_r1 ++ wsX9_latest_r2) ++ wsX90)
def wsX9_settle_r1 : List Cond := [Cond.fieldLink RX9 13 "TileArrayModel" "register" "[Z", Cond.constantDouble RX9 228 (4602678819172646912), Cond.constantDouble RX9 230 (4603804719079489536), Cond.fieldLink RX9 77 "TileArrayModel" "times" "[D", Cond.methodLink RX9 225 yX9_latest, Cond.instanceMethod yX9_latest, Cond.selects RX9 yX9_latest yX9_latest, Cond.initialized RX9, Cond.code yX9_latest cX9_latest 8 (some .double), Cond.constantDouble RX9 219 (13830554455654793216), Cond.methodLink RX9 211 yX9_gets, Cond.instanceMethod yX9_gets, Cond.selects RX9 yX9_gets yX9_gets, Cond.code yX9_gets cX9_gets 2 (some .int), Cond.fieldLink RX9 20 "TileArrayModel" "pinSwitch" "[I", Cond.methodLink RX9 159 yX9_behindPin, Cond.static yX9_behindPin, Cond.code yX9_behindPin cX9_behindPin 3 (some .int), Cond.methodLink RX9 88 yX9_comesIn, Cond.static yX9_comesIn, Cond.code yX9_comesIn cX9_comesIn 6 (some .int), Cond.methodLink RX9 84 yX9_channel, Cond.static yX9_channel, Cond.code yX9_channel cX9_channel 3 (some .int)]
def wsX9_settle_r2 : List Cond := [Cond.methodLink RX9 208 yX9_comesFrom, Cond.instanceMethod yX9_comesFrom, Cond.selects RX9 yX9_comesFrom yX9_comesFrom, Cond.code yX9_comesFrom cX9_comesFrom 4 (some .int), Cond.fieldLink RX9 74 "TileArrayModel" "seen" "[Z", Cond.fieldLink RX9 205 "TileArrayModel" "passed" "I", Cond.fieldLink RX9 23 "TileArrayModel" "channelSwitch" "[I", Cond.methodLink RX9 146 yX9_channelOf, Cond.static yX9_channelOf, Cond.code yX9_channelOf cX9_channelOf 1 (some .int), Cond.methodLink RX9 132 yX9_behindChannel, Cond.static yX9_behindChannel, Cond.code yX9_behindChannel cX9_behindChannel 4 (some .int), Cond.methodLink RX9 221 yX9_arrives, Cond.instanceMethod yX9_arrives, Cond.selects RX9 yX9_arrives yX9_arrives, Cond.code yX9_arrives cX9_arrives 4 (some .double), Cond.constantDouble RX9 217 (4600427019358961664)]
def wsX9_settle : List Cond := .code yX9_settle cX9_settle 7 (some .boolean) :: ((wsX9_settle_r1 ++ wsX9_settle_r2) ++ wsX90)
def wsX9_longest_r1 : List Cond := [Cond.fieldLink RX9 77 "TileArrayModel" "times" "[D", Cond.constantDouble RX9 219 (13830554455654793216), Cond.fieldLink RX9 13 "TileArrayModel" "register" "[Z", Cond.constantDouble RX9 230 (4603804719079489536), Cond.constantDouble RX9 235 (4598175219545276416), Cond.methodLink RX9 232 yX9_settle, Cond.instanceMethod yX9_settle, Cond.selects RX9 yX9_settle yX9_settle, Cond.initialized RX9, Cond.code yX9_settle cX9_settle 7 (some .boolean), Cond.constantDouble RX9 228 (4602678819172646912), Cond.methodLink RX9 225 yX9_latest, Cond.instanceMethod yX9_latest, Cond.selects RX9 yX9_latest yX9_latest, Cond.code yX9_latest cX9_latest 8 (some .double), Cond.methodLink RX9 211 yX9_gets, Cond.instanceMethod yX9_gets, Cond.selects RX9 yX9_gets yX9_gets, Cond.code yX9_gets cX9_gets 2 (some .int), Cond.fieldLink RX9 20 "TileArrayModel" "pinSwitch" "[I", Cond.methodLink RX9 159 yX9_behindPin, Cond.static yX9_behindPin, Cond.code yX9_behindPin cX9_behindPin 3 (some .int), Cond.methodLink RX9 88 yX9_comesIn]
def wsX9_longest_r2 : List Cond := [Cond.static yX9_comesIn, Cond.code yX9_comesIn cX9_comesIn 6 (some .int), Cond.methodLink RX9 84 yX9_channel, Cond.static yX9_channel, Cond.code yX9_channel cX9_channel 3 (some .int), Cond.methodLink RX9 208 yX9_comesFrom, Cond.instanceMethod yX9_comesFrom, Cond.selects RX9 yX9_comesFrom yX9_comesFrom, Cond.code yX9_comesFrom cX9_comesFrom 4 (some .int), Cond.fieldLink RX9 74 "TileArrayModel" "seen" "[Z", Cond.fieldLink RX9 205 "TileArrayModel" "passed" "I", Cond.fieldLink RX9 23 "TileArrayModel" "channelSwitch" "[I", Cond.methodLink RX9 146 yX9_channelOf, Cond.static yX9_channelOf, Cond.code yX9_channelOf cX9_channelOf 1 (some .int), Cond.methodLink RX9 132 yX9_behindChannel, Cond.static yX9_behindChannel, Cond.code yX9_behindChannel cX9_behindChannel 4 (some .int), Cond.methodLink RX9 221 yX9_arrives, Cond.instanceMethod yX9_arrives, Cond.selects RX9 yX9_arrives yX9_arrives, Cond.code yX9_arrives cX9_arrives 4 (some .double), Cond.constantDouble RX9 217 (4600427019358961664), Cond.methodLink RX9 237 yX9_outputOf]
def wsX9_longest_r3 : List Cond := [Cond.instanceMethod yX9_outputOf, Cond.selects RX9 yX9_outputOf yX9_outputOf, Cond.code yX9_outputOf cX9_outputOf 2 (some .int), Cond.methodLink RX9 95 yX9_in, Cond.static yX9_in, Cond.code yX9_in cX9_in 3 (some .boolean), Cond.methodLink RX9 152 yX9_outputWire, Cond.static yX9_outputWire, Cond.code yX9_outputWire cX9_outputWire 1 (some .int)]
def wsX9_longest : List Cond := .code yX9_longest cX9_longest 8 (some .double) :: ((wsX9_longest_r1 ++ (wsX9_longest_r2 ++ wsX9_longest_r3)) ++ wsX90)
def wsX9_slack_r1 : List Cond := [Cond.constantDouble RX9 219 (13830554455654793216), Cond.methodLink RX9 240 yX9_longest, Cond.instanceMethod yX9_longest, Cond.selects RX9 yX9_longest yX9_longest, Cond.initialized RX9, Cond.code yX9_longest cX9_longest 8 (some .double), Cond.fieldLink RX9 77 "TileArrayModel" "times" "[D", Cond.fieldLink RX9 13 "TileArrayModel" "register" "[Z", Cond.constantDouble RX9 230 (4603804719079489536), Cond.constantDouble RX9 235 (4598175219545276416), Cond.methodLink RX9 232 yX9_settle, Cond.instanceMethod yX9_settle, Cond.selects RX9 yX9_settle yX9_settle, Cond.code yX9_settle cX9_settle 7 (some .boolean), Cond.constantDouble RX9 228 (4602678819172646912), Cond.methodLink RX9 225 yX9_latest, Cond.instanceMethod yX9_latest, Cond.selects RX9 yX9_latest yX9_latest, Cond.code yX9_latest cX9_latest 8 (some .double), Cond.methodLink RX9 211 yX9_gets, Cond.instanceMethod yX9_gets, Cond.selects RX9 yX9_gets yX9_gets, Cond.code yX9_gets cX9_gets 2 (some .int), Cond.fieldLink RX9 20 "TileArrayModel" "pinSwitch" "[I"]
def wsX9_slack_r2 : List Cond := [Cond.methodLink RX9 159 yX9_behindPin, Cond.static yX9_behindPin, Cond.code yX9_behindPin cX9_behindPin 3 (some .int), Cond.methodLink RX9 88 yX9_comesIn, Cond.static yX9_comesIn, Cond.code yX9_comesIn cX9_comesIn 6 (some .int), Cond.methodLink RX9 84 yX9_channel, Cond.static yX9_channel, Cond.code yX9_channel cX9_channel 3 (some .int), Cond.methodLink RX9 208 yX9_comesFrom, Cond.instanceMethod yX9_comesFrom, Cond.selects RX9 yX9_comesFrom yX9_comesFrom, Cond.code yX9_comesFrom cX9_comesFrom 4 (some .int), Cond.fieldLink RX9 74 "TileArrayModel" "seen" "[Z", Cond.fieldLink RX9 205 "TileArrayModel" "passed" "I", Cond.fieldLink RX9 23 "TileArrayModel" "channelSwitch" "[I", Cond.methodLink RX9 146 yX9_channelOf, Cond.static yX9_channelOf, Cond.code yX9_channelOf cX9_channelOf 1 (some .int), Cond.methodLink RX9 132 yX9_behindChannel, Cond.static yX9_behindChannel, Cond.code yX9_behindChannel cX9_behindChannel 4 (some .int), Cond.methodLink RX9 221 yX9_arrives, Cond.instanceMethod yX9_arrives]
def wsX9_slack_r3 : List Cond := [Cond.selects RX9 yX9_arrives yX9_arrives, Cond.code yX9_arrives cX9_arrives 4 (some .double), Cond.constantDouble RX9 217 (4600427019358961664), Cond.methodLink RX9 237 yX9_outputOf, Cond.instanceMethod yX9_outputOf, Cond.selects RX9 yX9_outputOf yX9_outputOf, Cond.code yX9_outputOf cX9_outputOf 2 (some .int), Cond.methodLink RX9 95 yX9_in, Cond.static yX9_in, Cond.code yX9_in cX9_in 3 (some .boolean), Cond.methodLink RX9 152 yX9_outputWire, Cond.static yX9_outputWire, Cond.code yX9_outputWire cX9_outputWire 1 (some .int)]
def wsX9_slack : List Cond := .code yX9_slack cX9_slack 5 (some .double) :: ((wsX9_slack_r1 ++ (wsX9_slack_r2 ++ wsX9_slack_r3)) ++ wsX90)
def wsX9_reset : List Cond := .code yX9_reset cX9_reset 2 none :: ([.fieldLink RX9 26 "TileArrayModel" "state" "[I", .fieldLink RX9 13 "TileArrayModel" "register" "[Z", .fieldLink RX9 17 "TileArrayModel" "first" "[Z", .fieldLink RX9 91 "TileArrayModel" "cells" "I", .fieldLink RX9 38 "TileArrayModel" "cellState" "[I", .fieldLink RX9 35 "TileArrayModel" "cellFirst" "[Z"] ++ wsX90)
def wsX9_given : List Cond := .code yX9_given cX9_given 3 (some .int) :: ([.fieldLink RX9 26 "TileArrayModel" "state" "[I"] ++ wsX90)
def wsX9_looked_r1 : List Cond := [Cond.fieldLink RX9 7 "TileArrayModel" "table" "[I", Cond.methodLink RX9 211 yX9_gets, Cond.instanceMethod yX9_gets, Cond.selects RX9 yX9_gets yX9_gets, Cond.initialized RX9, Cond.code yX9_gets cX9_gets 2 (some .int), Cond.fieldLink RX9 20 "TileArrayModel" "pinSwitch" "[I", Cond.methodLink RX9 159 yX9_behindPin, Cond.static yX9_behindPin, Cond.code yX9_behindPin cX9_behindPin 3 (some .int), Cond.methodLink RX9 88 yX9_comesIn, Cond.static yX9_comesIn, Cond.code yX9_comesIn cX9_comesIn 6 (some .int), Cond.methodLink RX9 84 yX9_channel, Cond.static yX9_channel, Cond.code yX9_channel cX9_channel 3 (some .int), Cond.methodLink RX9 208 yX9_comesFrom, Cond.instanceMethod yX9_comesFrom, Cond.selects RX9 yX9_comesFrom yX9_comesFrom, Cond.code yX9_comesFrom cX9_comesFrom 4 (some .int), Cond.fieldLink RX9 74 "TileArrayModel" "seen" "[Z", Cond.fieldLink RX9 205 "TileArrayModel" "passed" "I", Cond.fieldLink RX9 23 "TileArrayModel" "channelSwitch" "[I", Cond.methodLink RX9 146 yX9_channelOf]
def wsX9_looked_r2 : List Cond := [Cond.static yX9_channelOf, Cond.code yX9_channelOf cX9_channelOf 1 (some .int), Cond.methodLink RX9 132 yX9_behindChannel, Cond.static yX9_behindChannel, Cond.code yX9_behindChannel cX9_behindChannel 4 (some .int), Cond.methodLink RX9 244 yX9_given, Cond.instanceMethod yX9_given, Cond.selects RX9 yX9_given yX9_given, Cond.code yX9_given cX9_given 3 (some .int), Cond.fieldLink RX9 26 "TileArrayModel" "state" "[I"]
def wsX9_looked : List Cond := .code yX9_looked cX9_looked 6 (some .int) :: ((wsX9_looked_r1 ++ wsX9_looked_r2) ++ wsX90)
def wsX9_clock_r1 : List Cond := [Cond.fieldLink RX9 26 "TileArrayModel" "state" "[I", Cond.fieldLink RX9 13 "TileArrayModel" "register" "[Z", Cond.methodLink RX9 247 yX9_looked, Cond.instanceMethod yX9_looked, Cond.selects RX9 yX9_looked yX9_looked, Cond.initialized RX9, Cond.code yX9_looked cX9_looked 6 (some .int), Cond.fieldLink RX9 7 "TileArrayModel" "table" "[I", Cond.methodLink RX9 211 yX9_gets, Cond.instanceMethod yX9_gets, Cond.selects RX9 yX9_gets yX9_gets, Cond.code yX9_gets cX9_gets 2 (some .int), Cond.fieldLink RX9 20 "TileArrayModel" "pinSwitch" "[I", Cond.methodLink RX9 159 yX9_behindPin, Cond.static yX9_behindPin, Cond.code yX9_behindPin cX9_behindPin 3 (some .int), Cond.methodLink RX9 88 yX9_comesIn, Cond.static yX9_comesIn, Cond.code yX9_comesIn cX9_comesIn 6 (some .int), Cond.methodLink RX9 84 yX9_channel, Cond.static yX9_channel, Cond.code yX9_channel cX9_channel 3 (some .int), Cond.methodLink RX9 208 yX9_comesFrom, Cond.instanceMethod yX9_comesFrom]
def wsX9_clock_r2 : List Cond := [Cond.selects RX9 yX9_comesFrom yX9_comesFrom, Cond.code yX9_comesFrom cX9_comesFrom 4 (some .int), Cond.fieldLink RX9 74 "TileArrayModel" "seen" "[Z", Cond.fieldLink RX9 205 "TileArrayModel" "passed" "I", Cond.fieldLink RX9 23 "TileArrayModel" "channelSwitch" "[I", Cond.methodLink RX9 146 yX9_channelOf, Cond.static yX9_channelOf, Cond.code yX9_channelOf cX9_channelOf 1 (some .int), Cond.methodLink RX9 132 yX9_behindChannel, Cond.static yX9_behindChannel, Cond.code yX9_behindChannel cX9_behindChannel 4 (some .int), Cond.methodLink RX9 244 yX9_given, Cond.instanceMethod yX9_given, Cond.selects RX9 yX9_given yX9_given, Cond.code yX9_given cX9_given 3 (some .int), Cond.methodLink RX9 237 yX9_outputOf, Cond.instanceMethod yX9_outputOf, Cond.selects RX9 yX9_outputOf yX9_outputOf, Cond.code yX9_outputOf cX9_outputOf 2 (some .int), Cond.methodLink RX9 95 yX9_in, Cond.static yX9_in, Cond.code yX9_in cX9_in 3 (some .boolean), Cond.methodLink RX9 152 yX9_outputWire, Cond.static yX9_outputWire]
def wsX9_clock_r3 : List Cond := [Cond.code yX9_outputWire cX9_outputWire 1 (some .int)]
def wsX9_clock : List Cond := .code yX9_clock cX9_clock 5 (some .int) :: ((wsX9_clock_r1 ++ (wsX9_clock_r2 ++ wsX9_clock_r3)) ++ wsX90)
def wsX9_sourceValue : List Cond := .code yX9_sourceValue cX9_sourceValue 3 (some .int) :: ([.fieldLink RX9 81 "TileArrayModel" "values" "[I"] ++ wsX90)
def wsX9_lookedUp : List Cond := .code yX9_lookedUp cX9_lookedUp 5 (some .int) :: ([.fieldLink RX9 44 "TileArrayModel" "source" "[I", .fieldLink RX9 29 "TileArrayModel" "cellTable" "[I", .methodLink RX9 250 yX9_sourceValue, .instanceMethod yX9_sourceValue, .selects RX9 yX9_sourceValue yX9_sourceValue, .initialized RX9, .code yX9_sourceValue cX9_sourceValue 3 (some .int), .fieldLink RX9 81 "TileArrayModel" "values" "[I"] ++ wsX90)
def wsX9_run : List Cond := .code yX9_run cX9_run 5 (some .int) :: ([.fieldLink RX9 91 "TileArrayModel" "cells" "I", .fieldLink RX9 81 "TileArrayModel" "values" "[I", .fieldLink RX9 32 "TileArrayModel" "cellRegister" "[Z", .fieldLink RX9 38 "TileArrayModel" "cellState" "[I", .fieldLink RX9 44 "TileArrayModel" "source" "[I", .methodLink RX9 174 yX9_ring, .instanceMethod yX9_ring, .selects RX9 yX9_ring yX9_ring, .initialized RX9, .code yX9_ring cX9_ring 7 (some .boolean), .methodLink RX9 95 yX9_in, .static yX9_in, .code yX9_in cX9_in 3 (some .boolean), .methodLink RX9 253 yX9_lookedUp, .instanceMethod yX9_lookedUp, .selects RX9 yX9_lookedUp yX9_lookedUp, .code yX9_lookedUp cX9_lookedUp 5 (some .int), .fieldLink RX9 29 "TileArrayModel" "cellTable" "[I", .methodLink RX9 250 yX9_sourceValue, .instanceMethod yX9_sourceValue, .selects RX9 yX9_sourceValue yX9_sourceValue, .code yX9_sourceValue cX9_sourceValue 3 (some .int)] ++ wsX90)
def wsJ9_max_7cf53 : List Cond := .code yJ9_max_7cf53 cJ9_max_7cf53 2 (some .int) :: ([])
def wsJ9_min_7cf53 : List Cond := .code yJ9_min_7cf53 cJ9_min_7cf53 2 (some .int) :: ([])
def wsL_law_r1 : List Cond := [Cond.classLink RL 7 RX8, Cond.instantiable RX8 8, Cond.initialized RX8, Cond.classLink RL 10 RX9, Cond.instantiable RX9 28, Cond.initialized RX9, Cond.constantLong RL 51 (4294967295), Cond.constantDouble RL 80 (4593671619917905920), Cond.methodLink RL 9 yX8_init, Cond.instanceMethod yX8_init, Cond.code yX8_init cX8_init 2 none, Cond.methodLink RX8 3 objectInit, Cond.instanceMethod objectInit, Cond.code objectInit ⟨#[0xb1]⟩ 1 none, Cond.classLink RX8 9 RX1, Cond.instantiable RX1 4, Cond.initialized RX1, Cond.classLink RX8 12 RX0, Cond.instantiable RX0 11, Cond.initialized RX0, Cond.fieldLink RX8 15 "TileArray" "circuit" "LTileArray$Circuit;", Cond.classLink RX8 19 RX2, Cond.instantiable RX2 2, Cond.initialized RX2]
def wsL_law_r2 : List Cond := [Cond.fieldLink RX8 22 "TileArray" "nets" "LTileArray$Nets;", Cond.classLink RX8 26 RX3, Cond.instantiable RX3 4, Cond.initialized RX3, Cond.fieldLink RX8 31 "TileArray" "placing" "LTileArray$Placing;", Cond.classLink RX8 35 RX4, Cond.instantiable RX4 11, Cond.initialized RX4, Cond.fieldLink RX8 40 "TileArray" "routing" "LTileArray$Routing;", Cond.classLink RX8 44 RX5, Cond.instantiable RX5 6, Cond.initialized RX5, Cond.fieldLink RX8 49 "TileArray" "tiles" "LTileArray$Tiles;", Cond.classLink RX8 53 RX6, Cond.instantiable RX6 3, Cond.initialized RX6, Cond.fieldLink RX8 58 "TileArray" "timing" "LTileArray$Timing;", Cond.arrayClass .int, Cond.fieldLink RX8 62 "TileArray" "builtOn" "[I", Cond.fieldLink RX8 72 "TileArray" "builtSpans" "I", Cond.methodLink RX8 11 yX1_init, Cond.instanceMethod yX1_init, Cond.code yX1_init cX1_init 2 none, Cond.methodLink RX1 3 objectInit]
def wsL_law_r3 : List Cond := [Cond.fieldLink RX1 9 "TileArray$Fabric" "beforeChannel" "[I", Cond.fieldLink RX1 15 "TileArray$Fabric" "beforePin" "[I", Cond.fieldLink RX1 18 "TileArray$Fabric" "after" "[I", Cond.fieldLink RX1 21 "TileArray$Fabric" "afterCount" "[I", Cond.methodLink RX1 24 yJ7_fill_53178, Cond.static yJ7_fill_53178, Cond.initialized RJ7, Cond.code yJ7_fill_53178 cJ7_fill_53178 4 none, Cond.methodLink RX1 30 yX1_laySwitches, Cond.instanceMethod yX1_laySwitches, Cond.selects RX1 yX1_laySwitches yX1_laySwitches, Cond.code yX1_laySwitches cX1_laySwitches 5 none, Cond.methodLink RX1 38 yX1_outletOf, Cond.static yX1_outletOf, Cond.code yX1_outletOf cX1_outletOf 1 (some .int), Cond.methodLink RX1 42 yX1_wireInto, Cond.static yX1_wireInto, Cond.code yX1_wireInto cX1_wireInto 6 (some .int), Cond.fieldLink RX1 52 "TileArray$Fabric" "ROW_STEP" "[I", Cond.fieldLink RX1 55 "TileArray$Fabric" "COLUMN_STEP" "[I", Cond.methodLink RX1 34 yX1_channelOf, Cond.static yX1_channelOf, Cond.code yX1_channelOf cX1_channelOf 3 (some .int), Cond.methodLink RX1 45 yX1_layChannel]
def wsL_law_r4 : List Cond := [Cond.instanceMethod yX1_layChannel, Cond.selects RX1 yX1_layChannel yX1_layChannel, Cond.code yX1_layChannel cX1_layChannel 7 none, Cond.methodLink RX1 49 yX1_laySwitch, Cond.instanceMethod yX1_laySwitch, Cond.selects RX1 yX1_laySwitch yX1_laySwitch, Cond.code yX1_laySwitch cX1_laySwitch 4 none, Cond.methodLink RX8 14 yX0_init, Cond.instanceMethod yX0_init, Cond.code yX0_init cX0_init 1 none, Cond.methodLink RX0 3 objectInit, Cond.fieldLink RX0 9 "TileArray$Circuit" "table" "[I", Cond.arrayClass .boolean, Cond.fieldLink RX0 15 "TileArray$Circuit" "register" "[Z", Cond.fieldLink RX0 19 "TileArray$Circuit" "first" "[I", Cond.fieldLink RX0 22 "TileArray$Circuit" "fixedTo" "[I", Cond.fieldLink RX0 25 "TileArray$Circuit" "sourceOfSink" "[I", Cond.fieldLink RX0 28 "TileArray$Circuit" "value" "[I", Cond.fieldLink RX0 31 "TileArray$Circuit" "next" "[I", Cond.fieldLink RX0 34 "TileArray$Circuit" "order" "[I", Cond.fieldLink RX0 37 "TileArray$Circuit" "ordered" "[Z", Cond.methodLink RX0 40 yJ7_fill_53178, Cond.methodLink RX8 21 yX2_init, Cond.instanceMethod yX2_init]
def wsL_law_r5 : List Cond := [Cond.code yX2_init cX2_init 1 none, Cond.methodLink RX2 3 objectInit, Cond.fieldLink RX2 9 "TileArray$Nets" "start" "[I", Cond.fieldLink RX2 15 "TileArray$Nets" "sinks" "[I", Cond.methodLink RX8 28 yX3_init, Cond.instanceMethod yX3_init, Cond.code yX3_init cX3_init 3 none, Cond.methodLink RX3 3 objectInit, Cond.fieldLink RX3 9 "TileArray$Placing" "circuit" "LTileArray$Circuit;", Cond.fieldLink RX3 15 "TileArray$Placing" "nets" "LTileArray$Nets;", Cond.fieldLink RX3 19 "TileArray$Placing" "cellOn" "[I", Cond.fieldLink RX3 23 "TileArray$Placing" "tileUnder" "[I", Cond.methodLink RX8 37 yX4_init, Cond.instanceMethod yX4_init, Cond.code yX4_init cX4_init 4 none, Cond.methodLink RX4 3 objectInit, Cond.fieldLink RX4 9 "TileArray$Routing" "fabric" "LTileArray$Fabric;", Cond.fieldLink RX4 15 "TileArray$Routing" "nets" "LTileArray$Nets;", Cond.fieldLink RX4 19 "TileArray$Routing" "placing" "LTileArray$Placing;", Cond.classLink RX4 23 RX7, Cond.instantiable RX7 4, Cond.initialized RX7, Cond.fieldLink RX4 26 "TileArray$Routing" "queue" "LTileArray$WireQueue;", Cond.fieldLink RX4 30 "TileArray$Routing" "users" "[I"]
def wsL_law_r6 : List Cond := [Cond.fieldLink RX4 34 "TileArray$Routing" "history" "[I", Cond.fieldLink RX4 37 "TileArray$Routing" "price" "[I", Cond.fieldLink RX4 40 "TileArray$Routing" "distance" "[I", Cond.fieldLink RX4 43 "TileArray$Routing" "inTree" "[Z", Cond.fieldLink RX4 47 "TileArray$Routing" "channelSetting" "[I", Cond.fieldLink RX4 50 "TileArray$Routing" "pinSetting" "[I", Cond.methodLink RX4 25 yX7_init, Cond.instanceMethod yX7_init, Cond.code yX7_init cX7_init 1 none, Cond.methodLink RX7 3 objectInit, Cond.fieldLink RX7 9 "TileArray$WireQueue" "row" "[I", Cond.fieldLink RX7 15 "TileArray$WireQueue" "waits" "[Z", Cond.methodLink RX8 46 yX5_init, Cond.instanceMethod yX5_init, Cond.code yX5_init cX5_init 2 none, Cond.methodLink RX5 3 objectInit, Cond.fieldLink RX5 9 "TileArray$Tiles" "fabric" "LTileArray$Fabric;", Cond.arrayClass .long, Cond.fieldLink RX5 15 "TileArray$Tiles" "bits" "[J", Cond.fieldLink RX5 19 "TileArray$Tiles" "gives" "[I", Cond.fieldLink RX5 23 "TileArray$Tiles" "next" "[I", Cond.fieldLink RX5 26 "TileArray$Tiles" "origin" "[I", Cond.fieldLink RX5 29 "TileArray$Tiles" "length" "[I", Cond.methodLink RX5 32 yJ7_fill_53178]
def wsL_law_r7 : List Cond := [Cond.methodLink RX8 55 yX6_init, Cond.instanceMethod yX6_init, Cond.code yX6_init cX6_init 2 none, Cond.methodLink RX6 3 objectInit, Cond.fieldLink RX6 9 "TileArray$Timing" "tiles" "LTileArray$Tiles;", Cond.arrayClass .double, Cond.fieldLink RX6 15 "TileArray$Timing" "outletAt" "[D", Cond.fieldLink RX6 19 "TileArray$Timing" "known" "[Z", Cond.methodLink RX8 66 yJ7_fill_53178, Cond.methodLink RL 12 yX9_init, Cond.instanceMethod yX9_init, Cond.code yX9_init cX9_init 2 none, Cond.methodLink RX9 1 objectInit, Cond.fieldLink RX9 7 "TileArrayModel" "table" "[I", Cond.fieldLink RX9 13 "TileArrayModel" "register" "[Z", Cond.fieldLink RX9 17 "TileArrayModel" "first" "[Z", Cond.fieldLink RX9 20 "TileArrayModel" "pinSwitch" "[I", Cond.fieldLink RX9 23 "TileArrayModel" "channelSwitch" "[I", Cond.fieldLink RX9 26 "TileArrayModel" "state" "[I", Cond.fieldLink RX9 29 "TileArrayModel" "cellTable" "[I", Cond.fieldLink RX9 32 "TileArrayModel" "cellRegister" "[Z", Cond.fieldLink RX9 35 "TileArrayModel" "cellFirst" "[Z", Cond.fieldLink RX9 38 "TileArrayModel" "cellState" "[I", Cond.fieldLink RX9 41 "TileArrayModel" "fixed" "[I"]
def wsL_law_r8 : List Cond := [Cond.fieldLink RX9 44 "TileArrayModel" "source" "[I", Cond.fieldLink RX9 47 "TileArrayModel" "builtTile" "[I", Cond.fieldLink RX9 50 "TileArrayModel" "tileIs" "[I", Cond.fieldLink RX9 53 "TileArrayModel" "cellOn" "[I", Cond.fieldLink RX9 56 "TileArrayModel" "uses" "[I", Cond.fieldLink RX9 59 "TileArrayModel" "history" "[I", Cond.fieldLink RX9 62 "TileArrayModel" "tree" "[Z", Cond.fieldLink RX9 65 "TileArrayModel" "least" "[I", Cond.fieldLink RX9 68 "TileArrayModel" "newPin" "[I", Cond.fieldLink RX9 71 "TileArrayModel" "newChannel" "[I", Cond.fieldLink RX9 74 "TileArrayModel" "seen" "[Z", Cond.fieldLink RX9 77 "TileArrayModel" "times" "[D", Cond.fieldLink RX9 81 "TileArrayModel" "values" "[I", Cond.methodLink RL 13 yX8_cell, Cond.instanceMethod yX8_cell, Cond.selects RX8 yX8_cell yX8_cell, Cond.code yX8_cell cX8_cell 4 (some .int), Cond.methodLink RX8 76 yX0_addCell, Cond.instanceMethod yX0_addCell, Cond.selects RX0 yX0_addCell yX0_addCell, Cond.code yX0_addCell cX0_addCell 5 (some .int), Cond.fieldLink RX0 46 "TileArray$Circuit" "size" "I", Cond.methodLink RL 17 yX9_cell, Cond.instanceMethod yX9_cell]
def wsL_law_r9 : List Cond := [Cond.selects RX9 yX9_cell yX9_cell, Cond.code yX9_cell cX9_cell 4 (some .int), Cond.fieldLink RX9 91 "TileArrayModel" "cells" "I", Cond.methodLink RL 18 yX8_connect, Cond.instanceMethod yX8_connect, Cond.selects RX8 yX8_connect yX8_connect, Cond.code yX8_connect cX8_connect 4 (some .boolean), Cond.methodLink RX8 80 yX0_hasCell, Cond.instanceMethod yX0_hasCell, Cond.selects RX0 yX0_hasCell yX0_hasCell, Cond.code yX0_hasCell cX0_hasCell 2 (some .boolean), Cond.methodLink RX8 84 yX0_setSource, Cond.instanceMethod yX0_setSource, Cond.selects RX0 yX0_setSource yX0_setSource, Cond.code yX0_setSource cX0_setSource 4 (some .boolean), Cond.methodLink RX0 50 yX0_hasCell, Cond.methodLink RX0 54 yX0_isInput, Cond.static yX0_isInput, Cond.code yX0_isInput cX0_isInput 1 (some .boolean), Cond.methodLink RL 22 yX9_connect, Cond.instanceMethod yX9_connect, Cond.selects RX9 yX9_connect yX9_connect, Cond.code yX9_connect cX9_connect 4 (some .boolean), Cond.methodLink RX9 95 yX9_in]
def wsL_law_r10 : List Cond := [Cond.static yX9_in, Cond.code yX9_in cX9_in 3 (some .boolean), Cond.methodLink RX9 99 yX9_isSource, Cond.instanceMethod yX9_isSource, Cond.selects RX9 yX9_isSource yX9_isSource, Cond.code yX9_isSource cX9_isSource 2 (some .boolean), Cond.methodLink RL 23 yX8_output, Cond.instanceMethod yX8_output, Cond.selects RX8 yX8_output yX8_output, Cond.code yX8_output cX8_output 3 (some .boolean), Cond.methodLink RL 27 yX9_output, Cond.instanceMethod yX9_output, Cond.selects RX9 yX9_output yX9_output, Cond.code yX9_output cX9_output 3 (some .boolean), Cond.methodLink RL 28 yX8_fix, Cond.instanceMethod yX8_fix, Cond.selects RX8 yX8_fix yX8_fix, Cond.code yX8_fix cX8_fix 3 (some .boolean), Cond.methodLink RX8 88 yX0_setFixed, Cond.instanceMethod yX0_setFixed, Cond.selects RX0 yX0_setFixed yX0_setFixed, Cond.code yX0_setFixed cX0_setFixed 4 (some .boolean), Cond.methodLink RL 31 yX9_fix, Cond.instanceMethod yX9_fix]
def wsL_law_r11 : List Cond := [Cond.selects RX9 yX9_fix yX9_fix, Cond.code yX9_fix cX9_fix 4 (some .boolean), Cond.methodLink RL 32 yX8_build, Cond.instanceMethod yX8_build, Cond.selects RX8 yX8_build yX8_build, Cond.code yX8_build cX8_build 3 (some .int), Cond.methodLink RX8 91 yX0_size, Cond.instanceMethod yX0_size, Cond.selects RX0 yX0_size yX0_size, Cond.code yX0_size cX0_size 1 (some .int), Cond.methodLink RX8 95 yX0_hasRing, Cond.instanceMethod yX0_hasRing, Cond.selects RX0 yX0_hasRing yX0_hasRing, Cond.code yX0_hasRing cX0_hasRing 4 (some .boolean), Cond.fieldLink RX0 57 "TileArray$Circuit" "orderSize" "I", Cond.methodLink RX0 60 yX0_orderIfReady, Cond.instanceMethod yX0_orderIfReady, Cond.selects RX0 yX0_orderIfReady yX0_orderIfReady, Cond.code yX0_orderIfReady cX0_orderIfReady 4 none, Cond.methodLink RX8 99 yX2_gather, Cond.instanceMethod yX2_gather, Cond.selects RX2 yX2_gather yX2_gather, Cond.code yX2_gather cX2_gather 5 none, Cond.methodLink RX2 18 yX0_sourceOf]
def wsL_law_r12 : List Cond := [Cond.instanceMethod yX0_sourceOf, Cond.selects RX0 yX0_sourceOf yX0_sourceOf, Cond.code yX0_sourceOf cX0_sourceOf 2 (some .int), Cond.methodLink RX8 103 yX3_place, Cond.instanceMethod yX3_place, Cond.selects RX3 yX3_place yX3_place, Cond.code yX3_place cX3_place 4 (some .int), Cond.methodLink RX3 26 yX3_putFirst, Cond.instanceMethod yX3_putFirst, Cond.selects RX3 yX3_putFirst yX3_putFirst, Cond.code yX3_putFirst cX3_putFirst 3 none, Cond.methodLink RX3 37 yJ7_fill_53178, Cond.methodLink RX3 43 yX0_size, Cond.methodLink RX3 48 yX0_fixedTile, Cond.instanceMethod yX0_fixedTile, Cond.selects RX0 yX0_fixedTile yX0_fixedTile, Cond.code yX0_fixedTile cX0_fixedTile 2 (some .int), Cond.methodLink RX3 51 yX3_put, Cond.instanceMethod yX3_put, Cond.selects RX3 yX3_put yX3_put, Cond.code yX3_put cX3_put 3 none, Cond.methodLink RX3 29 yX3_sumOfSpans, Cond.instanceMethod yX3_sumOfSpans, Cond.selects RX3 yX3_sumOfSpans yX3_sumOfSpans]
def wsL_law_r13 : List Cond := [Cond.code yX3_sumOfSpans cX3_sumOfSpans 3 (some .int), Cond.methodLink RX3 63 yX2_sinksOf, Cond.instanceMethod yX2_sinksOf, Cond.selects RX2 yX2_sinksOf yX2_sinksOf, Cond.code yX2_sinksOf cX2_sinksOf 2 (some .int), Cond.methodLink RX3 68 yX3_spanOf, Cond.instanceMethod yX3_spanOf, Cond.selects RX3 yX3_spanOf yX3_spanOf, Cond.code yX3_spanOf cX3_spanOf 8 (some .int), Cond.methodLink RX3 81 Lib.Math.min.name, Cond.static Lib.Math.min.name, Cond.initialized "java/lang/Math", Cond.code Lib.Math.min.name Lib.Math.min.code 2 (some .int), Cond.methodLink RX3 86 Lib.Math.max.name, Cond.static Lib.Math.max.name, Cond.code Lib.Math.max.name Lib.Math.max.code 2 (some .int), Cond.methodLink RX3 71 yX3_siteOf, Cond.instanceMethod yX3_siteOf, Cond.selects RX3 yX3_siteOf yX3_siteOf, Cond.code yX3_siteOf cX3_siteOf 2 (some .int), Cond.methodLink RX3 74 yX2_sinkAt, Cond.instanceMethod yX2_sinkAt, Cond.selects RX2 yX2_sinkAt yX2_sinkAt, Cond.code yX2_sinkAt cX2_sinkAt 4 (some .int)]
def wsL_law_r14 : List Cond := [Cond.methodLink RX3 78 yX3_siteOfSink, Cond.instanceMethod yX3_siteOfSink, Cond.selects RX3 yX3_siteOfSink yX3_siteOfSink, Cond.code yX3_siteOfSink cX3_siteOfSink 2 (some .int), Cond.methodLink RX3 33 yX3_goThrough, Cond.instanceMethod yX3_goThrough, Cond.selects RX3 yX3_goThrough yX3_goThrough, Cond.code yX3_goThrough cX3_goThrough 5 (some .int), Cond.methodLink RX3 55 yX3_isFixed, Cond.instanceMethod yX3_isFixed, Cond.selects RX3 yX3_isFixed yX3_isFixed, Cond.code yX3_isFixed cX3_isFixed 2 (some .boolean), Cond.methodLink RX3 59 yX3_exchangeIfBetter, Cond.instanceMethod yX3_exchangeIfBetter, Cond.selects RX3 yX3_exchangeIfBetter yX3_exchangeIfBetter, Cond.code yX3_exchangeIfBetter cX3_exchangeIfBetter 7 (some .int), Cond.methodLink RX8 106 yX4_route, Cond.instanceMethod yX4_route, Cond.selects RX4 yX4_route yX4_route, Cond.code yX4_route cX4_route 2 (some .int), Cond.methodLink RX4 53 yJ7_fill_53178, Cond.methodLink RX4 59 yX4_routeAll, Cond.instanceMethod yX4_routeAll, Cond.selects RX4 yX4_routeAll yX4_routeAll]
def wsL_law_r15 : List Cond := [Cond.code yX4_routeAll cX4_routeAll 2 (some .boolean), Cond.methodLink RX4 72 yX2_sinksOf, Cond.methodLink RX4 77 yX4_routeNet, Cond.instanceMethod yX4_routeNet, Cond.selects RX4 yX4_routeNet yX4_routeNet, Cond.code yX4_routeNet cX4_routeNet 4 (some .boolean), Cond.constant RX4 98 (1048576), Cond.methodLink RX4 81 yX4_wireOf, Cond.instanceMethod yX4_wireOf, Cond.selects RX4 yX4_wireOf yX4_wireOf, Cond.code yX4_wireOf cX4_wireOf 2 (some .int), Cond.methodLink RX4 102 yX3_siteOf, Cond.methodLink RX4 66 yX1_outletOf, Cond.methodLink RX4 84 yX4_startTree, Cond.instanceMethod yX4_startTree, Cond.selects RX4 yX4_startTree yX4_startTree, Cond.code yX4_startTree cX4_startTree 3 none, Cond.methodLink RX4 88 yX4_spread, Cond.instanceMethod yX4_spread, Cond.selects RX4 yX4_spread yX4_spread, Cond.code yX4_spread cX4_spread 2 none, Cond.constant RX4 111 (1000000), Cond.methodLink RX4 107 yX4_shorten, Cond.instanceMethod yX4_shorten]
def wsL_law_r16 : List Cond := [Cond.selects RX4 yX4_shorten yX4_shorten, Cond.code yX4_shorten cX4_shorten 3 none, Cond.methodLink RX4 125 yX7_add, Cond.instanceMethod yX7_add, Cond.selects RX7 yX7_add yX7_add, Cond.code yX7_add cX7_add 2 none, Cond.fieldLink RX7 19 "TileArray$WireQueue" "size" "I", Cond.fieldLink RX7 23 "TileArray$WireQueue" "first" "I", Cond.methodLink RX4 112 yX7_isEmpty, Cond.instanceMethod yX7_isEmpty, Cond.selects RX7 yX7_isEmpty yX7_isEmpty, Cond.code yX7_isEmpty cX7_isEmpty 1 (some .boolean), Cond.methodLink RX4 115 yX7_take, Cond.instanceMethod yX7_take, Cond.selects RX7 yX7_take yX7_take, Cond.code yX7_take cX7_take 2 (some .int), Cond.methodLink RX4 119 yX4_spreadFrom, Cond.instanceMethod yX4_spreadFrom, Cond.selects RX4 yX4_spreadFrom yX4_spreadFrom, Cond.code yX4_spreadFrom cX4_spreadFrom 4 none, Cond.methodLink RX4 122 yX1_channelAfter, Cond.instanceMethod yX1_channelAfter, Cond.selects RX1 yX1_channelAfter yX1_channelAfter, Cond.code yX1_channelAfter cX1_channelAfter 4 (some .int)]
def wsL_law_r17 : List Cond := [Cond.methodLink RX4 91 yX2_sinkAt, Cond.methodLink RX4 95 yX4_endOfWay, Cond.instanceMethod yX4_endOfWay, Cond.selects RX4 yX4_endOfWay yX4_endOfWay, Cond.code yX4_endOfWay cX4_endOfWay 2 (some .int), Cond.methodLink RX4 128 yX3_siteOfSink, Cond.methodLink RX4 131 yX4_switchPin, Cond.instanceMethod yX4_switchPin, Cond.selects RX4 yX4_switchPin yX4_switchPin, Cond.code yX4_switchPin cX4_switchPin 6 (some .int), Cond.methodLink RX4 137 yX1_beforePin, Cond.instanceMethod yX1_beforePin, Cond.selects RX1 yX1_beforePin yX1_beforePin, Cond.code yX1_beforePin cX1_beforePin 4 (some .int), Cond.methodLink RX4 140 yX4_isNearer, Cond.instanceMethod yX4_isNearer, Cond.selects RX4 yX4_isNearer yX4_isNearer, Cond.code yX4_isNearer cX4_isNearer 4 (some .boolean), Cond.methodLink RX4 134 yX1_outputWire, Cond.static yX1_outputWire, Cond.code yX1_outputWire cX1_outputWire 1 (some .int), Cond.methodLink RX4 99 yX4_followBack, Cond.instanceMethod yX4_followBack, Cond.selects RX4 yX4_followBack yX4_followBack]
def wsL_law_r18 : List Cond := [Cond.code yX4_followBack cX4_followBack 5 none, Cond.methodLink RX4 144 yX4_settingBack, Cond.instanceMethod yX4_settingBack, Cond.selects RX4 yX4_settingBack yX4_settingBack, Cond.code yX4_settingBack cX4_settingBack 7 (some .int), Cond.methodLink RX4 147 yX1_beforeChannel, Cond.instanceMethod yX1_beforeChannel, Cond.selects RX1 yX1_beforeChannel yX1_beforeChannel, Cond.code yX1_beforeChannel cX1_beforeChannel 5 (some .int), Cond.methodLink RX4 63 yX4_growHistory, Cond.instanceMethod yX4_growHistory, Cond.selects RX4 yX4_growHistory yX4_growHistory, Cond.code yX4_growHistory cX4_growHistory 3 (some .boolean), Cond.methodLink RX8 109 yX8_keepBuilding, Cond.instanceMethod yX8_keepBuilding, Cond.selects RX8 yX8_keepBuilding yX8_keepBuilding, Cond.code yX8_keepBuilding cX8_keepBuilding 5 none, Cond.methodLink RX8 156 yX3_siteOf, Cond.methodLink RX8 159 yX3_cellAt, Cond.instanceMethod yX3_cellAt, Cond.selects RX3 yX3_cellAt yX3_cellAt, Cond.code yX3_cellAt cX3_cellAt 2 (some .int), Cond.methodLink RX8 162 yX0_settingsOf, Cond.instanceMethod yX0_settingsOf]
def wsL_law_r19 : List Cond := [Cond.selects RX0 yX0_settingsOf yX0_settingsOf, Cond.code yX0_settingsOf cX0_settingsOf 3 (some .long), Cond.methodLink RX8 165 yX4_settingsOf, Cond.instanceMethod yX4_settingsOf, Cond.selects RX4 yX4_settingsOf yX4_settingsOf, Cond.code yX4_settingsOf cX4_settingsOf 7 (some .long), Cond.methodLink RX8 121 yX5_setBits, Cond.instanceMethod yX5_setBits, Cond.selects RX5 yX5_setBits yX5_setBits, Cond.code yX5_setBits cX5_setBits 5 none, Cond.methodLink RX5 51 yX5_hasRegister, Cond.instanceMethod yX5_hasRegister, Cond.selects RX5 yX5_hasRegister yX5_hasRegister, Cond.code yX5_hasRegister cX5_hasRegister 2 (some .boolean), Cond.methodLink RX5 47 yX5_bitsOf, Cond.instanceMethod yX5_bitsOf, Cond.selects RX5 yX5_bitsOf yX5_bitsOf, Cond.code yX5_bitsOf cX5_bitsOf 2 (some .long), Cond.methodLink RX8 125 yX5_retrace, Cond.instanceMethod yX5_retrace, Cond.selects RX5 yX5_retrace yX5_retrace, Cond.code yX5_retrace cX5_retrace 4 none, Cond.methodLink RX5 40 yX5_pinSetting, Cond.static yX5_pinSetting]
def wsL_law_r20 : List Cond := [Cond.code yX5_pinSetting cX5_pinSetting 3 (some .int), Cond.methodLink RX5 55 yX1_beforePin, Cond.methodLink RX5 61 yX5_trace, Cond.instanceMethod yX5_trace, Cond.selects RX5 yX5_trace yX5_trace, Cond.code yX5_trace cX5_trace 8 none, Cond.methodLink RX5 80 yX1_isChannel, Cond.static yX1_isChannel, Cond.code yX1_isChannel cX1_isChannel 1 (some .boolean), Cond.methodLink RX5 44 yX5_channelSetting, Cond.static yX5_channelSetting, Cond.code yX5_channelSetting cX5_channelSetting 3 (some .int), Cond.methodLink RX5 83 yX1_beforeChannel, Cond.methodLink RX5 86 yX5_originAt, Cond.static yX5_originAt, Cond.code yX5_originAt cX5_originAt 1 (some .int), Cond.methodLink RX5 65 yX1_outputWire, Cond.methodLink RL 36 yX9_build, Cond.instanceMethod yX9_build, Cond.selects RX9 yX9_build yX9_build, Cond.code yX9_build cX9_build 3 (some .int), Cond.methodLink RX9 174 yX9_ring, Cond.instanceMethod yX9_ring, Cond.selects RX9 yX9_ring yX9_ring]
def wsL_law_r21 : List Cond := [Cond.code yX9_ring cX9_ring 7 (some .boolean), Cond.methodLink RX9 177 yX9_place, Cond.instanceMethod yX9_place, Cond.selects RX9 yX9_place yX9_place, Cond.code yX9_place cX9_place 3 none, Cond.methodLink RX9 124 yX9_put, Cond.instanceMethod yX9_put, Cond.selects RX9 yX9_put yX9_put, Cond.code yX9_put cX9_put 3 none, Cond.methodLink RX9 127 yX9_pass, Cond.instanceMethod yX9_pass, Cond.selects RX9 yX9_pass yX9_pass, Cond.code yX9_pass cX9_pass 5 (some .boolean), Cond.methodLink RX9 113 yX9_isFixed, Cond.instanceMethod yX9_isFixed, Cond.selects RX9 yX9_isFixed yX9_isFixed, Cond.code yX9_isFixed cX9_isFixed 2 (some .boolean), Cond.methodLink RX9 116 yX9_placeCost, Cond.instanceMethod yX9_placeCost, Cond.selects RX9 yX9_placeCost yX9_placeCost, Cond.code yX9_placeCost cX9_placeCost 3 (some .int), Cond.methodLink RX9 107 yX9_hasSinks, Cond.instanceMethod yX9_hasSinks, Cond.selects RX9 yX9_hasSinks yX9_hasSinks]
def wsL_law_r22 : List Cond := [Cond.code yX9_hasSinks cX9_hasSinks 4 (some .boolean), Cond.methodLink RX9 110 yX9_span, Cond.instanceMethod yX9_span, Cond.selects RX9 yX9_span yX9_span, Cond.code yX9_span cX9_span 7 (some .int), Cond.methodLink RX9 103 yX9_lies, Cond.instanceMethod yX9_lies, Cond.selects RX9 yX9_lies yX9_lies, Cond.code yX9_lies cX9_lies 4 (some .int), Cond.methodLink RX9 120 yX9_exchange, Cond.instanceMethod yX9_exchange, Cond.selects RX9 yX9_exchange yX9_exchange, Cond.code yX9_exchange cX9_exchange 5 none, Cond.methodLink RX9 180 yX9_round, Cond.instanceMethod yX9_round, Cond.selects RX9 yX9_round yX9_round, Cond.code yX9_round cX9_round 3 (some .int), Cond.methodLink RX9 165 yX9_routeNet, Cond.instanceMethod yX9_routeNet, Cond.selects RX9 yX9_routeNet yX9_routeNet, Cond.code yX9_routeNet cX9_routeNet 4 (some .boolean), Cond.methodLink RX9 162 yX9_reach, Cond.instanceMethod yX9_reach, Cond.selects RX9 yX9_reach yX9_reach]
def wsL_law_r23 : List Cond := [Cond.code yX9_reach cX9_reach 9 (some .boolean), Cond.constant RX9 131 (1000000), Cond.methodLink RX9 149 yX9_relax, Cond.instanceMethod yX9_relax, Cond.selects RX9 yX9_relax yX9_relax, Cond.code yX9_relax cX9_relax 5 none, Cond.methodLink RX9 136 yX9_wireOf, Cond.static yX9_wireOf, Cond.code yX9_wireOf cX9_wireOf 1 (some .int), Cond.methodLink RX9 140 yX9_leastBehind, Cond.instanceMethod yX9_leastBehind, Cond.selects RX9 yX9_leastBehind yX9_leastBehind, Cond.code yX9_leastBehind cX9_leastBehind 5 (some .int), Cond.methodLink RX9 132 yX9_behindChannel, Cond.static yX9_behindChannel, Cond.code yX9_behindChannel cX9_behindChannel 4 (some .int), Cond.methodLink RX9 88 yX9_comesIn, Cond.static yX9_comesIn, Cond.code yX9_comesIn cX9_comesIn 6 (some .int), Cond.methodLink RX9 84 yX9_channel, Cond.static yX9_channel, Cond.code yX9_channel cX9_channel 3 (some .int), Cond.methodLink RX9 143 yX9_price, Cond.instanceMethod yX9_price]
def wsL_law_r24 : List Cond := [Cond.selects RX9 yX9_price yX9_price, Cond.code yX9_price cX9_price 2 (some .int), Cond.methodLink RX9 152 yX9_outputWire, Cond.static yX9_outputWire, Cond.code yX9_outputWire cX9_outputWire 1 (some .int), Cond.methodLink RX9 155 yX9_follow, Cond.instanceMethod yX9_follow, Cond.selects RX9 yX9_follow yX9_follow, Cond.code yX9_follow cX9_follow 9 none, Cond.methodLink RX9 146 yX9_channelOf, Cond.static yX9_channelOf, Cond.code yX9_channelOf cX9_channelOf 1 (some .int), Cond.methodLink RX9 159 yX9_behindPin, Cond.static yX9_behindPin, Cond.code yX9_behindPin cX9_behindPin 3 (some .int), Cond.methodLink RX9 183 yX9_makeBits, Cond.instanceMethod yX9_makeBits, Cond.selects RX9 yX9_makeBits yX9_makeBits, Cond.code yX9_makeBits cX9_makeBits 4 none, Cond.fieldLink RX9 168 "TileArrayModel" "built" "I", Cond.fieldLink RX9 171 "TileArrayModel" "builtCost" "I", Cond.methodLink RL 37 yX8_tileOf, Cond.instanceMethod yX8_tileOf, Cond.selects RX8 yX8_tileOf yX8_tileOf]
def wsL_law_r25 : List Cond := [Cond.code yX8_tileOf cX8_tileOf 2 (some .int), Cond.methodLink RL 41 yX9_tileOf, Cond.instanceMethod yX9_tileOf, Cond.selects RX9 yX9_tileOf yX9_tileOf, Cond.code yX9_tileOf cX9_tileOf 2 (some .int), Cond.methodLink RL 42 yX8_cost, Cond.instanceMethod yX8_cost, Cond.selects RX8 yX8_cost yX8_cost, Cond.code yX8_cost cX8_cost 1 (some .int), Cond.methodLink RL 45 yX9_cost, Cond.instanceMethod yX9_cost, Cond.selects RX9 yX9_cost yX9_cost, Cond.code yX9_cost cX9_cost 1 (some .int), Cond.methodLink RL 46 yX8_bits, Cond.instanceMethod yX8_bits, Cond.selects RX8 yX8_bits yX8_bits, Cond.code yX8_bits cX8_bits 2 (some .long), Cond.methodLink RX8 113 yX5_bitsOf, Cond.methodLink RL 50 yX9_bits, Cond.instanceMethod yX9_bits, Cond.selects RX9 yX9_bits yX9_bits, Cond.code yX9_bits cX9_bits 5 (some .long), Cond.constantLong RX9 186 (256), Cond.constantLong RX9 188 (512)]
def wsL_law_r26 : List Cond := [Cond.methodLink RL 53 yX8_load, Cond.instanceMethod yX8_load, Cond.selects RX8 yX8_load yX8_load, Cond.code yX8_load cX8_load 4 (some .boolean), Cond.methodLink RX8 117 yX5_areLegal, Cond.static yX5_areLegal, Cond.code yX5_areLegal cX5_areLegal 3 (some .boolean), Cond.constantLong RX5 38 (70368744177664), Cond.methodLink RL 57 yX9_load, Cond.instanceMethod yX9_load, Cond.selects RX9 yX9_load yX9_load, Cond.code yX9_load cX9_load 7 (some .boolean), Cond.constantLong RX9 190 (15), Cond.constantLong RX9 192 (9), Cond.constantLong RX9 194 (7), Cond.constantLong RX9 196 (4), Cond.constantLong RX9 198 (255), Cond.methodLink RL 58 yX8_checkSum, Cond.instanceMethod yX8_checkSum, Cond.selects RX8 yX8_checkSum yX8_checkSum, Cond.code yX8_checkSum cX8_checkSum 1 (some .int), Cond.methodLink RX8 128 yX5_sumUp, Cond.instanceMethod yX5_sumUp, Cond.selects RX5 yX5_sumUp yX5_sumUp]
def wsL_law_r27 : List Cond := [Cond.code yX5_sumUp cX5_sumUp 6 (some .int), Cond.constant RX5 69 (65535), Cond.methodLink RL 61 yX9_checkSum, Cond.instanceMethod yX9_checkSum, Cond.selects RX9 yX9_checkSum yX9_checkSum, Cond.code yX9_checkSum cX9_checkSum 7 (some .int), Cond.constant RX9 200 (65535), Cond.methodLink RX9 201 yX9_bits, Cond.methodLink RL 62 yX8_pin, Cond.instanceMethod yX8_pin, Cond.selects RX8 yX8_pin yX8_pin, Cond.code yX8_pin cX8_pin 3 (some .int), Cond.methodLink RX8 131 yX8_wayTo, Cond.static yX8_wayTo, Cond.code yX8_wayTo cX8_wayTo 3 (some .int), Cond.methodLink RX8 135 yX5_originOf, Cond.instanceMethod yX5_originOf, Cond.selects RX5 yX5_originOf yX5_originOf, Cond.code yX5_originOf cX5_originOf 2 (some .int), Cond.methodLink RL 66 yX9_pin, Cond.instanceMethod yX9_pin, Cond.selects RX9 yX9_pin yX9_pin, Cond.code yX9_pin cX9_pin 3 (some .int), Cond.methodLink RX9 211 yX9_gets]
def wsL_law_r28 : List Cond := [Cond.instanceMethod yX9_gets, Cond.selects RX9 yX9_gets yX9_gets, Cond.code yX9_gets cX9_gets 2 (some .int), Cond.methodLink RX9 208 yX9_comesFrom, Cond.instanceMethod yX9_comesFrom, Cond.selects RX9 yX9_comesFrom yX9_comesFrom, Cond.code yX9_comesFrom cX9_comesFrom 4 (some .int), Cond.fieldLink RX9 205 "TileArrayModel" "passed" "I", Cond.methodLink RL 67 yX8_outputOf, Cond.instanceMethod yX8_outputOf, Cond.selects RX8 yX8_outputOf yX8_outputOf, Cond.code yX8_outputOf cX8_outputOf 2 (some .int), Cond.methodLink RL 70 yX9_outputOf, Cond.instanceMethod yX9_outputOf, Cond.selects RX9 yX9_outputOf yX9_outputOf, Cond.code yX9_outputOf cX9_outputOf 2 (some .int), Cond.methodLink RL 71 yX8_channels, Cond.instanceMethod yX8_channels, Cond.selects RX8 yX8_channels yX8_channels, Cond.code yX8_channels cX8_channels 3 (some .int), Cond.methodLink RX8 139 yX5_lengthOf, Cond.instanceMethod yX5_lengthOf, Cond.selects RX5 yX5_lengthOf yX5_lengthOf, Cond.code yX5_lengthOf cX5_lengthOf 2 (some .int)]
def wsL_law_r29 : List Cond := [Cond.methodLink RL 74 yX9_channels, Cond.instanceMethod yX9_channels, Cond.selects RX9 yX9_channels yX9_channels, Cond.code yX9_channels cX9_channels 3 (some .int), Cond.methodLink RX9 214 yX9_pin, Cond.methodLink RL 75 yX8_longest, Cond.instanceMethod yX8_longest, Cond.selects RX8 yX8_longest yX8_longest, Cond.code yX8_longest cX8_longest 1 (some .double), Cond.methodLink RX8 142 yX6_longestWay, Cond.instanceMethod yX6_longestWay, Cond.selects RX6 yX6_longestWay yX6_longestWay, Cond.code yX6_longestWay cX6_longestWay 6 (some .double), Cond.constantDouble RX6 27 (13830554455654793216), Cond.constantDouble RX6 39 (4603804719079489536), Cond.constantDouble RX6 41 (4598175219545276416), Cond.methodLink RX6 23 yX6_timeOutlets, Cond.instanceMethod yX6_timeOutlets, Cond.selects RX6 yX6_timeOutlets yX6_timeOutlets, Cond.code yX6_timeOutlets cX6_timeOutlets 4 (some .boolean), Cond.constantDouble RX6 50 (4602678819172646912), Cond.methodLink RX6 33 yX5_hasRegister, Cond.methodLink RX6 52 yX6_pinsAreKnown, Cond.instanceMethod yX6_pinsAreKnown]
def wsL_law_r30 : List Cond := [Cond.selects RX6 yX6_pinsAreKnown yX6_pinsAreKnown, Cond.code yX6_pinsAreKnown cX6_pinsAreKnown 4 (some .boolean), Cond.methodLink RX6 55 yX5_originOf, Cond.methodLink RX6 29 yX6_latestPin, Cond.instanceMethod yX6_latestPin, Cond.selects RX6 yX6_latestPin yX6_latestPin, Cond.code yX6_latestPin cX6_latestPin 5 (some .double), Cond.methodLink RX6 47 yX6_arrival, Cond.instanceMethod yX6_arrival, Cond.selects RX6 yX6_arrival yX6_arrival, Cond.code yX6_arrival cX6_arrival 5 (some .double), Cond.constantDouble RX6 59 (4600427019358961664), Cond.methodLink RX6 61 yX5_lengthOf, Cond.methodLink RX6 43 yX6_later, Cond.static yX6_later, Cond.code yX6_later cX6_later 4 (some .double), Cond.methodLink RL 79 yX9_longest, Cond.instanceMethod yX9_longest, Cond.selects RX9 yX9_longest yX9_longest, Cond.code yX9_longest cX9_longest 8 (some .double), Cond.constantDouble RX9 219 (13830554455654793216), Cond.constantDouble RX9 230 (4603804719079489536), Cond.constantDouble RX9 235 (4598175219545276416), Cond.methodLink RX9 232 yX9_settle]
def wsL_law_r31 : List Cond := [Cond.instanceMethod yX9_settle, Cond.selects RX9 yX9_settle yX9_settle, Cond.code yX9_settle cX9_settle 7 (some .boolean), Cond.constantDouble RX9 228 (4602678819172646912), Cond.methodLink RX9 225 yX9_latest, Cond.instanceMethod yX9_latest, Cond.selects RX9 yX9_latest yX9_latest, Cond.code yX9_latest cX9_latest 8 (some .double), Cond.methodLink RX9 221 yX9_arrives, Cond.instanceMethod yX9_arrives, Cond.selects RX9 yX9_arrives yX9_arrives, Cond.code yX9_arrives cX9_arrives 4 (some .double), Cond.constantDouble RX9 217 (4600427019358961664), Cond.methodLink RX9 237 yX9_outputOf, Cond.methodLink RL 82 yX8_slack, Cond.instanceMethod yX8_slack, Cond.selects RX8 yX8_slack yX8_slack, Cond.code yX8_slack cX8_slack 5 (some .double), Cond.constantDouble RX8 146 (13830554455654793216), Cond.methodLink RL 86 yX9_slack, Cond.instanceMethod yX9_slack, Cond.selects RX9 yX9_slack yX9_slack, Cond.code yX9_slack cX9_slack 5 (some .double), Cond.methodLink RX9 240 yX9_longest]
def wsL_law_r32 : List Cond := [Cond.methodLink RL 87 yX8_reset, Cond.instanceMethod yX8_reset, Cond.selects RX8 yX8_reset yX8_reset, Cond.code yX8_reset cX8_reset 1 none, Cond.methodLink RX8 148 yX5_restart, Cond.instanceMethod yX5_restart, Cond.selects RX5 yX5_restart yX5_restart, Cond.code yX5_restart cX5_restart 2 none, Cond.methodLink RX8 151 yX0_restart, Cond.instanceMethod yX0_restart, Cond.selects RX0 yX0_restart yX0_restart, Cond.code yX0_restart cX0_restart 2 none, Cond.methodLink RL 90 yX9_reset, Cond.instanceMethod yX9_reset, Cond.selects RX9 yX9_reset yX9_reset, Cond.code yX9_reset cX9_reset 2 none, Cond.methodLink RL 91 yX8_clock, Cond.instanceMethod yX8_clock, Cond.selects RX8 yX8_clock yX8_clock, Cond.code yX8_clock cX8_clock 2 (some .int), Cond.methodLink RX8 152 yX5_step, Cond.instanceMethod yX5_step, Cond.selects RX5 yX5_step yX5_step, Cond.code yX5_step cX5_step 4 (some .int)]
def wsL_law_r33 : List Cond := [Cond.methodLink RX5 70 yX5_tableGives, Cond.instanceMethod yX5_tableGives, Cond.selects RX5 yX5_tableGives yX5_tableGives, Cond.code yX5_tableGives cX5_tableGives 5 (some .int), Cond.methodLink RX5 73 yX5_valueAt, Cond.instanceMethod yX5_valueAt, Cond.selects RX5 yX5_valueAt yX5_valueAt, Cond.code yX5_valueAt cX5_valueAt 4 (some .int), Cond.methodLink RX5 95 yX5_originOf, Cond.methodLink RX5 76 yX5_stepRegisters, Cond.instanceMethod yX5_stepRegisters, Cond.selects RX5 yX5_stepRegisters yX5_stepRegisters, Cond.code yX5_stepRegisters cX5_stepRegisters 3 none, Cond.methodLink RX5 89 arraycopyName, Cond.native arraycopyName, Cond.static arraycopyName, Cond.initialized "java/lang/System", Cond.methodLink RL 94 yX9_clock, Cond.instanceMethod yX9_clock, Cond.selects RX9 yX9_clock yX9_clock, Cond.code yX9_clock cX9_clock 5 (some .int), Cond.methodLink RX9 247 yX9_looked, Cond.instanceMethod yX9_looked, Cond.selects RX9 yX9_looked yX9_looked]
def wsL_law_r34 : List Cond := [Cond.code yX9_looked cX9_looked 6 (some .int), Cond.methodLink RX9 244 yX9_given, Cond.instanceMethod yX9_given, Cond.selects RX9 yX9_given yX9_given, Cond.code yX9_given cX9_given 3 (some .int), Cond.methodLink RL 95 yX8_run, Cond.instanceMethod yX8_run, Cond.selects RX8 yX8_run yX8_run, Cond.code yX8_run cX8_run 2 (some .int), Cond.methodLink RX8 155 yX0_step, Cond.instanceMethod yX0_step, Cond.selects RX0 yX0_step yX0_step, Cond.code yX0_step cX0_step 4 (some .int), Cond.methodLink RX0 64 yX0_tableGives, Cond.instanceMethod yX0_tableGives, Cond.selects RX0 yX0_tableGives yX0_tableGives, Cond.code yX0_tableGives cX0_tableGives 4 (some .int), Cond.methodLink RX0 68 yX0_valueAt, Cond.instanceMethod yX0_valueAt, Cond.selects RX0 yX0_valueAt yX0_valueAt, Cond.code yX0_valueAt cX0_valueAt 3 (some .int), Cond.methodLink RX0 71 yX0_stepRegisters, Cond.instanceMethod yX0_stepRegisters, Cond.selects RX0 yX0_stepRegisters yX0_stepRegisters]
def wsL_law_r35 : List Cond := [Cond.code yX0_stepRegisters cX0_stepRegisters 2 none, Cond.methodLink RX0 74 arraycopyName, Cond.methodLink RL 98 yX9_run, Cond.instanceMethod yX9_run, Cond.selects RX9 yX9_run yX9_run, Cond.code yX9_run cX9_run 5 (some .int), Cond.methodLink RX9 253 yX9_lookedUp, Cond.instanceMethod yX9_lookedUp, Cond.selects RX9 yX9_lookedUp yX9_lookedUp, Cond.code yX9_lookedUp cX9_lookedUp 5 (some .int), Cond.methodLink RX9 250 yX9_sourceValue, Cond.instanceMethod yX9_sourceValue, Cond.selects RX9 yX9_sourceValue yX9_sourceValue, Cond.code yX9_sourceValue cX9_sourceValue 3 (some .int)]
def wsL_law : List Cond := (wsL_law_r1 ++ (wsL_law_r2 ++ (wsL_law_r3 ++ (wsL_law_r4 ++ (wsL_law_r5 ++ (wsL_law_r6 ++ (wsL_law_r7 ++ (wsL_law_r8 ++ (wsL_law_r9 ++ (wsL_law_r10 ++ (wsL_law_r11 ++ (wsL_law_r12 ++ (wsL_law_r13 ++ (wsL_law_r14 ++ (wsL_law_r15 ++ (wsL_law_r16 ++ (wsL_law_r17 ++ (wsL_law_r18 ++ (wsL_law_r19 ++ (wsL_law_r20 ++ (wsL_law_r21 ++ (wsL_law_r22 ++ (wsL_law_r23 ++ (wsL_law_r24 ++ (wsL_law_r25 ++ (wsL_law_r26 ++ (wsL_law_r27 ++ (wsL_law_r28 ++ (wsL_law_r29 ++ (wsL_law_r30 ++ (wsL_law_r31 ++ (wsL_law_r32 ++ (wsL_law_r33 ++ (wsL_law_r34 ++ wsL_law_r35)))))))))))))))))))))))))))))))))) ++ wsX80 ++ wsX90 ++ wsX10 ++ wsX00 ++ wsX20 ++ wsX30 ++ wsX40 ++ wsX50 ++ wsX60 ++ wsX70 ++ ([] : List Cond)
set_option maxRecDepth 20000 in
theorem ggX0_init_J7_fill_53178 : GoodIn wsX0_init wsJ7_fill_53178 := goodIn_r _ [18] (by decide +kernel) (by decide +kernel)
set_option maxRecDepth 20000 in
theorem gX0_init_J7_fill_53178 : GoodIn wsX0_init (va_wsS RX0 40 yJ7_fill_53178 wsJ7_fill_53178) := goodIn_app (goodIn_of _ (by decide +kernel)) ggX0_init_J7_fill_53178
end
section
abbrev vwCl : List vw_C := [(RX0, TX0, 11), (RX1, TX1, 4), (RX2, TX2, 2), (RX3, TX3, 4), (RX4, TX4, 11), (RX5, TX5, 6), (RX6, TX6, 3), (RX7, TX7, 4), (RX8, TX8, 8), (RX9, TX9, 28)]
/-! ints as mathematical integers; worlds, contexts, the judgement xJ: from a place with locals L, stack st, world ws the method ends with rv and the world wf -/
def xi (x : Int) : Int32 := Int32.ofInt x
abbrev xr (x : Int) : Prop := -2147483648 ≤ x ∧ x ≤ 2147483647
theorem xi_toInt {x : Int} (h : xr x) : (xi x).toInt = x := Int32.toInt_ofInt_of_le (by have := h.1; omega) (by have := h.2; omega)
theorem xi_of (x : Int32) : xi x.toInt = x := Int32.ofInt_toInt x
theorem xi_add (x y : Int) : xi x + xi y = xi (x + y) := (Int32.ofInt_add x y).symm
theorem xi_sub (x y : Int) : xi x - xi y = xi (x - y) := (Int32.ofInt_sub x y).symm
theorem xi_mul (x y : Int) : xi x * xi y = xi (x * y) := (Int32.ofInt_mul x y).symm
theorem xi_lt {x y : Int} (hx : xr x) (hy : xr y) : xi x < xi y ↔ x < y := by rw [Int32.lt_iff_toInt_lt, xi_toInt hx, xi_toInt hy]
theorem xi_le {x y : Int} (hx : xr x) (hy : xr y) : xi x ≤ xi y ↔ x ≤ y := by rw [Int32.le_iff_toInt_le, xi_toInt hx, xi_toInt hy]
theorem xi_eq {x y : Int} (hx : xr x) (hy : xr y) : xi x = xi y ↔ x = y := by rw [← Int32.toInt_inj, xi_toInt hx, xi_toInt hy]
theorem xi_nat (n : Nat) : xi (n : Int) = nI n := by
  unfold xi nI
  apply Int32.toBitVec_inj.mp
  simp
theorem xi_pos {x : Int} (h : 0 ≤ x) : xi x = nI x.toNat := by
  have e : x = ((x.toNat : Nat) : Int) := by omega
  calc xi x = xi ((x.toNat : Nat) : Int) := by rw [← e]
    _ = nI x.toNat := xi_nat _
theorem xi_div {x y : Int} (h : 0 ≤ x ∧ x ≤ 2147483647 ∧ 0 < y ∧ y ≤ 2147483647) : xi x / xi y = xi (x / y) := by
  obtain ⟨h1, h2, h3, h4⟩ := h
  have e : x / y = ((x.toNat / y.toNat : Nat) : Int) := by
    rw [Int.natCast_ediv, Int.toNat_of_nonneg h1, Int.toNat_of_nonneg (by omega)]
  rw [e, xi_nat, xi_pos h1, xi_pos (by omega), pk_div (by omega) (by omega) (by omega)]
theorem xi_rem {x y : Int} (h : 0 ≤ x ∧ x ≤ 2147483647 ∧ 0 < y ∧ y ≤ 2147483647) : xi x - xi x / xi y * xi y = xi (x % y) := by
  obtain ⟨h1, h2, h3, h4⟩ := h
  have e : x % y = ((x.toNat % y.toNat : Nat) : Int) := by
    rw [Int.natCast_emod, Int.toNat_of_nonneg h1, Int.toNat_of_nonneg (by omega)]
  rw [e, xi_nat, xi_pos h1, xi_pos (by omega), pk_rem (by omega) (by omega) (by omega)]
theorem xi_nz {y : Int} (h : 0 < y ∧ y ≤ 2147483647) : ¬ xi y = 0 := by
  intro h2
  have h3 : xi y = xi 0 := h2
  have := (xi_eq ⟨by omega, by omega⟩ ⟨by omega, by omega⟩).mp h3
  omega
theorem xi_cl {x : Int} (h : 0 ≤ x ∧ x < 2147483648) : (xi x).toNatClampNeg = x.toNat := by
  rw [xi_pos h.1, nI_clamp (by omega)]
theorem xi_in {x : Int} {n : Nat} (h : 0 ≤ x ∧ x < n) (hn : n < 2147483648) : vp_in (xi x) n := by
  rw [xi_pos h.1]
  exact vp_in_nI (by omega) (by omega)
def xck {α : Type} (P : Prop) [Decidable P] (t : Option α) : Option α := if P then t else none
theorem xck_some {α : Type} {P : Prop} [Decidable P] {t : Option α} {v : α} (h : xck P t = some v) : P ∧ t = some v := by
  unfold xck at h
  split at h
  · exact ⟨by assumption, h⟩
  · cases h
theorem xck_t {α : Type} {P : Prop} [Decidable P] {t : Option α} (h : P) : xck P t = t := if_pos h
theorem xit {α : Type} {P : Prop} [Decidable P] {a b o : Option α} (h : (if P then a else b) = o) (c : P) : a = o := by rw [if_pos c] at h; exact h
theorem xif {α : Type} {P : Prop} [Decidable P] {a b o : Option α} (h : (if P then a else b) = o) (c : ¬ P) : b = o := by rw [if_neg c] at h; exact h
theorem xbd {α β : Type} {t : Option α} {f : α → Option β} {v : β} (h : t.bind f = some v) : ∃ u, t = some u ∧ f u = some v := Option.bind_eq_some_iff.mp h
def xup (S : Nat → Int → Int) (q : Nat) (i v : Int) : Nat → Int → Int := fun q1 i1 => if q1 = q ∧ i1 = i then v else S q1 i1
theorem xup_s (S : Nat → Int → Int) (q : Nat) (i v : Int) : xup S q i v q i = v := if_pos ⟨rfl, rfl⟩
theorem xup_q (S : Nat → Int → Int) {q q1 : Nat} (i v : Int) (h : q1 ≠ q) : xup S q i v q1 = S q1 := by
  funext i1
  exact if_neg (fun h1 => h h1.1)
theorem xup_i (S : Nat → Int → Int) (q : Nat) {i i1 : Int} (v : Int) (h : i1 ≠ i) : xup S q i v q i1 = S q i1 := if_neg (fun h1 => h h1.2)
abbrev xT (k : Nat → ClassId) : List (ClassId × FieldType) := [(k 0, .int), (k 1, .boolean), (k 2, .long), (k 3, .double)]
abbrev xX : Type := Program × Env × Room × State × MethodId × Array Value × List Frame × Method × Code × (Nat → Prop)
abbrev xO : Type := Option Value × va_W
def xQ (D : va_G) (k : Nat → ClassId) (A : Nat → Prop) (rv : Option Value) (wf : va_W) : Array Value → State → Outcome → State → Prop := fun _ st oc t => (oc = .returned rv ∧ va_P D vwCl wf t.heap ∧ va_K D vwCl (xT k) t ∧ va_D A wf) ∧ va_F A st t
def xJ (l : Launch) (D : va_G) (k : Nat → ClassId) (o : xO) (X : xX) (nL pc : Nat) (L : List (Nat × Value)) (st : List Value) (ws : va_W) : Prop := match X with
  | (p, e, R, s, m, args, below, meth, c, A) => ∀ (H : Heap) (locs : List Loc) (ls : Array Slot), va_P D vwCl ws H → va_D A ws → va_S A s.heap H locs → lv_has ls nL L → W p l e R s m args below meth c H locs 0 0 (MQ below (xQ D k A o.1 o.2) args s 0 0 A) (F0 m pc ls st)
def xC (D : va_G) (k : Nat → ClassId) (X : xX) (cc : ByteArray) (nL : Nat) (own : String) (Ts : List Cond) (ret : Option FieldType) (rm : Room) : Prop := match X with
  | (p, _, R, s, m, args, _, meth, c, A) => CallFix p m c cc nL s args Ts own ∧ va_K D vwCl (xT k) s ∧ (∀ q : Nat, s.heap.size ≤ q → A q) ∧ meth.sig.returnType = ret ∧ meth.locks = false ∧ R = rm
/-- a method's contract: from the world w it answers rv and leaves the world w', nothing made -/
def xM (l : Launch) (y : MethodName) (ws : List Cond) (rm : Room) (D : va_G) (k : Nat → ClassId) (av : List Value) (w : va_W) (rv : Option Value) (w' : va_W) : Prop :=
  ∀ sz : Nat, Met l y ws rm (va_Pc av (fun U => U.heap.size = sz ∧ va_P D vwCl w U.heap ∧ va_K D vwCl (xT k) U ∧ va_D (fun _ => True) w)) (xQ D k (va_A w sz) rv w') 0 0 (va_A w sz)
theorem xM_of {l : Launch} {y : MethodName} {ws ws' : List Cond} {rm : Room} {D : va_G} {k : Nat → ClassId} {av : List Value} {w : va_W} {rv : Option Value} {w' : va_W} {cc : ByteArray} {maxL : Nat} {ret : Option FieldType}
    (hy : plainName y.cls = true) (hw : ws = Cond.code y cc maxL ret :: ws') (hlen : (lg_sl av).length ≤ maxL)
    (body : ∀ X : xX, xC D k X cc maxL y.cls ws ret rm → xJ l D k (rv, w') X maxL 0 (lv_args 0 av) [] w) : xM l y ws rm D k av w rv w' := by
  intro sz
  refine Met.ofW (cc := cc) (maxL := maxL) (ret := ret) hy hw ?_
  intro p e s m args below meth c s₁ B hml hv
  obtain ⟨rfl, hsz, hP, hK, hD0⟩ := hv
  subst hsz
  have hown : s.vm.findClass y.cls = some m.cls := findClass_of_methodNamed B.named
  have hA : ∀ q : Nat, s.heap.size ≤ q → va_A w s.heap.size q := fun q h => Or.inr h
  rw [lg_entry_eq]
  exact body (p, e, (headSpec ws rm).room, s, m, av.toArray, below, meth, c, va_A w s.heap.size) ⟨⟨B.exec, B.bytes, hml, hown, atoms_spec (ws := ws) B.pre⟩, hK, hA, B.returns, B.notSynchronized, rfl⟩ s.heap [] _ hP hD0.self va_S.rf (lv_entry av hlen)
end
section
/-! the instruction rules over xJ (by program: wip/whole/mkrules.py) -/
theorem xj_iadd {l : Launch} {D : va_G} {k : Nat → ClassId} {o : xO} {X : xX} {cc : ByteArray} {nL : Nat} {own : String} {Ts : List Cond} {ret : Option FieldType} {rm : Room} (C : xC D k X cc nL own Ts ret rm) {pc : Nat} {L : List (Nat × Value)} {st : List Value} {ws : va_W} {x y : Int} (hd : decode cc pc = .ok (.iadd, 1)) (kk : xJ l D k o X nL (pc + 1) L (.int (xi (x + y)) :: st) ws) : xJ l D k o X nL pc L (.int (xi y) :: .int (xi x) :: st) ws := by
  obtain ⟨p, e, R, s, m, args, below, meth, c, A⟩ := X
  obtain ⟨⟨hx, hb, hml, hown, hts⟩, hK, hA, hr, hlk, hR⟩ := C
  intro H locs ls hP hD hS hl
  refine lv_iadd hx hb hd ?_
  rw [xi_add]
  exact kk H locs ls hP hD hS hl

theorem xj_isub {l : Launch} {D : va_G} {k : Nat → ClassId} {o : xO} {X : xX} {cc : ByteArray} {nL : Nat} {own : String} {Ts : List Cond} {ret : Option FieldType} {rm : Room} (C : xC D k X cc nL own Ts ret rm) {pc : Nat} {L : List (Nat × Value)} {st : List Value} {ws : va_W} {x y : Int} (hd : decode cc pc = .ok (.isub, 1)) (kk : xJ l D k o X nL (pc + 1) L (.int (xi (x - y)) :: st) ws) : xJ l D k o X nL pc L (.int (xi y) :: .int (xi x) :: st) ws := by
  obtain ⟨p, e, R, s, m, args, below, meth, c, A⟩ := X
  obtain ⟨⟨hx, hb, hml, hown, hts⟩, hK, hA, hr, hlk, hR⟩ := C
  intro H locs ls hP hD hS hl
  refine lv_isub hx hb hd ?_
  rw [xi_sub]
  exact kk H locs ls hP hD hS hl

theorem xj_imul {l : Launch} {D : va_G} {k : Nat → ClassId} {o : xO} {X : xX} {cc : ByteArray} {nL : Nat} {own : String} {Ts : List Cond} {ret : Option FieldType} {rm : Room} (C : xC D k X cc nL own Ts ret rm) {pc : Nat} {L : List (Nat × Value)} {st : List Value} {ws : va_W} {x y : Int} (hd : decode cc pc = .ok (.imul, 1)) (kk : xJ l D k o X nL (pc + 1) L (.int (xi (x * y)) :: st) ws) : xJ l D k o X nL pc L (.int (xi y) :: .int (xi x) :: st) ws := by
  obtain ⟨p, e, R, s, m, args, below, meth, c, A⟩ := X
  obtain ⟨⟨hx, hb, hml, hown, hts⟩, hK, hA, hr, hlk, hR⟩ := C
  intro H locs ls hP hD hS hl
  refine lv_imul hx hb hd ?_
  rw [xi_mul]
  exact kk H locs ls hP hD hS hl

def xb_iand (x y : Int) : Int := (xi x &&& xi y).toInt
theorem xj_iand {l : Launch} {D : va_G} {k : Nat → ClassId} {o : xO} {X : xX} {cc : ByteArray} {nL : Nat} {own : String} {Ts : List Cond} {ret : Option FieldType} {rm : Room} (C : xC D k X cc nL own Ts ret rm) {pc : Nat} {L : List (Nat × Value)} {st : List Value} {ws : va_W} {x y : Int} (hd : decode cc pc = .ok (.iand, 1)) (kk : xJ l D k o X nL (pc + 1) L (.int (xi (xb_iand x y)) :: st) ws) : xJ l D k o X nL pc L (.int (xi y) :: .int (xi x) :: st) ws := by
  obtain ⟨p, e, R, s, m, args, below, meth, c, A⟩ := X
  obtain ⟨⟨hx, hb, hml, hown, hts⟩, hK, hA, hr, hlk, hR⟩ := C
  intro H locs ls hP hD hS hl
  refine lv_iand hx hb hd ?_
  rw [xb_iand, xi_of] at kk
  exact kk H locs ls hP hD hS hl

def xb_ior (x y : Int) : Int := (xi x ||| xi y).toInt
theorem xj_ior {l : Launch} {D : va_G} {k : Nat → ClassId} {o : xO} {X : xX} {cc : ByteArray} {nL : Nat} {own : String} {Ts : List Cond} {ret : Option FieldType} {rm : Room} (C : xC D k X cc nL own Ts ret rm) {pc : Nat} {L : List (Nat × Value)} {st : List Value} {ws : va_W} {x y : Int} (hd : decode cc pc = .ok (.ior, 1)) (kk : xJ l D k o X nL (pc + 1) L (.int (xi (xb_ior x y)) :: st) ws) : xJ l D k o X nL pc L (.int (xi y) :: .int (xi x) :: st) ws := by
  obtain ⟨p, e, R, s, m, args, below, meth, c, A⟩ := X
  obtain ⟨⟨hx, hb, hml, hown, hts⟩, hK, hA, hr, hlk, hR⟩ := C
  intro H locs ls hP hD hS hl
  refine lv_ior hx hb hd ?_
  rw [xb_ior, xi_of] at kk
  exact kk H locs ls hP hD hS hl

def xb_ixor (x y : Int) : Int := (xi x ^^^ xi y).toInt
theorem xj_ixor {l : Launch} {D : va_G} {k : Nat → ClassId} {o : xO} {X : xX} {cc : ByteArray} {nL : Nat} {own : String} {Ts : List Cond} {ret : Option FieldType} {rm : Room} (C : xC D k X cc nL own Ts ret rm) {pc : Nat} {L : List (Nat × Value)} {st : List Value} {ws : va_W} {x y : Int} (hd : decode cc pc = .ok (.ixor, 1)) (kk : xJ l D k o X nL (pc + 1) L (.int (xi (xb_ixor x y)) :: st) ws) : xJ l D k o X nL pc L (.int (xi y) :: .int (xi x) :: st) ws := by
  obtain ⟨p, e, R, s, m, args, below, meth, c, A⟩ := X
  obtain ⟨⟨hx, hb, hml, hown, hts⟩, hK, hA, hr, hlk, hR⟩ := C
  intro H locs ls hP hD hS hl
  refine lv_ixor hx hb hd ?_
  rw [xb_ixor, xi_of] at kk
  exact kk H locs ls hP hD hS hl

def xb_ishl (x y : Int) : Int := (xi x <<< (xi y &&& 31)).toInt
theorem xj_ishl {l : Launch} {D : va_G} {k : Nat → ClassId} {o : xO} {X : xX} {cc : ByteArray} {nL : Nat} {own : String} {Ts : List Cond} {ret : Option FieldType} {rm : Room} (C : xC D k X cc nL own Ts ret rm) {pc : Nat} {L : List (Nat × Value)} {st : List Value} {ws : va_W} {x y : Int} (hd : decode cc pc = .ok (.ishl, 1)) (kk : xJ l D k o X nL (pc + 1) L (.int (xi (xb_ishl x y)) :: st) ws) : xJ l D k o X nL pc L (.int (xi y) :: .int (xi x) :: st) ws := by
  obtain ⟨p, e, R, s, m, args, below, meth, c, A⟩ := X
  obtain ⟨⟨hx, hb, hml, hown, hts⟩, hK, hA, hr, hlk, hR⟩ := C
  intro H locs ls hP hD hS hl
  refine lv_ishl hx hb hd ?_
  rw [xb_ishl, xi_of] at kk
  exact kk H locs ls hP hD hS hl

def xb_ishr (x y : Int) : Int := (xi x >>> (xi y &&& 31)).toInt
theorem xj_ishr {l : Launch} {D : va_G} {k : Nat → ClassId} {o : xO} {X : xX} {cc : ByteArray} {nL : Nat} {own : String} {Ts : List Cond} {ret : Option FieldType} {rm : Room} (C : xC D k X cc nL own Ts ret rm) {pc : Nat} {L : List (Nat × Value)} {st : List Value} {ws : va_W} {x y : Int} (hd : decode cc pc = .ok (.ishr, 1)) (kk : xJ l D k o X nL (pc + 1) L (.int (xi (xb_ishr x y)) :: st) ws) : xJ l D k o X nL pc L (.int (xi y) :: .int (xi x) :: st) ws := by
  obtain ⟨p, e, R, s, m, args, below, meth, c, A⟩ := X
  obtain ⟨⟨hx, hb, hml, hown, hts⟩, hK, hA, hr, hlk, hR⟩ := C
  intro H locs ls hP hD hS hl
  refine lv_ishr hx hb hd ?_
  rw [xb_ishr, xi_of] at kk
  exact kk H locs ls hP hD hS hl

theorem xj_idiv {l : Launch} {D : va_G} {k : Nat → ClassId} {o : xO} {X : xX} {cc : ByteArray} {nL : Nat} {own : String} {Ts : List Cond} {ret : Option FieldType} {rm : Room} (C : xC D k X cc nL own Ts ret rm) {pc : Nat} {L : List (Nat × Value)} {st : List Value} {ws : va_W} {x y : Int} (hg : 0 ≤ x ∧ x ≤ 2147483647 ∧ 0 < y ∧ y ≤ 2147483647) (hd : decode cc pc = .ok (.idiv, 1)) (kk : xJ l D k o X nL (pc + 1) L (.int (xi (x / y)) :: st) ws) : xJ l D k o X nL pc L (.int (xi y) :: .int (xi x) :: st) ws := by
  obtain ⟨p, e, R, s, m, args, below, meth, c, A⟩ := X
  obtain ⟨⟨hx, hb, hml, hown, hts⟩, hK, hA, hr, hlk, hR⟩ := C
  intro H locs ls hP hD hS hl
  refine lv_idiv hx hb hd (xi_nz hg.2.2) ?_
  rw [xi_div hg]
  exact kk H locs ls hP hD hS hl

theorem xj_irem {l : Launch} {D : va_G} {k : Nat → ClassId} {o : xO} {X : xX} {cc : ByteArray} {nL : Nat} {own : String} {Ts : List Cond} {ret : Option FieldType} {rm : Room} (C : xC D k X cc nL own Ts ret rm) {pc : Nat} {L : List (Nat × Value)} {st : List Value} {ws : va_W} {x y : Int} (hg : 0 ≤ x ∧ x ≤ 2147483647 ∧ 0 < y ∧ y ≤ 2147483647) (hd : decode cc pc = .ok (.irem, 1)) (kk : xJ l D k o X nL (pc + 1) L (.int (xi (x % y)) :: st) ws) : xJ l D k o X nL pc L (.int (xi y) :: .int (xi x) :: st) ws := by
  obtain ⟨p, e, R, s, m, args, below, meth, c, A⟩ := X
  obtain ⟨⟨hx, hb, hml, hown, hts⟩, hK, hA, hr, hlk, hR⟩ := C
  intro H locs ls hP hD hS hl
  refine lv_irem hx hb hd (xi_nz hg.2.2) ?_
  rw [xi_rem hg]
  exact kk H locs ls hP hD hS hl

theorem xj_iconst {l : Launch} {D : va_G} {k : Nat → ClassId} {o : xO} {X : xX} {cc : ByteArray} {nL : Nat} {own : String} {Ts : List Cond} {ret : Option FieldType} {rm : Room} (C : xC D k X cc nL own Ts ret rm) {pc : Nat} {L : List (Nat × Value)} {st : List Value} {ws : va_W} {n : Int} (hd : decode cc pc = .ok (.iconst n, 1)) (kk : xJ l D k o X nL (pc + 1) L (.int (xi n) :: st) ws) : xJ l D k o X nL pc L (st) ws := by
  obtain ⟨p, e, R, s, m, args, below, meth, c, A⟩ := X
  obtain ⟨⟨hx, hb, hml, hown, hts⟩, hK, hA, hr, hlk, hR⟩ := C
  intro H locs ls hP hD hS hl
  refine lv_iconst (v := xi n) hx hb hd rfl ?_
  exact kk H locs ls hP hD hS hl

theorem xj_bipush {l : Launch} {D : va_G} {k : Nat → ClassId} {o : xO} {X : xX} {cc : ByteArray} {nL : Nat} {own : String} {Ts : List Cond} {ret : Option FieldType} {rm : Room} (C : xC D k X cc nL own Ts ret rm) {pc : Nat} {L : List (Nat × Value)} {st : List Value} {ws : va_W} {n : Int} (hv : (Int8.ofInt n).toInt32 = xi n) (hd : decode cc pc = .ok (.bipush n, 2)) (kk : xJ l D k o X nL (pc + 2) L (.int (xi n) :: st) ws) : xJ l D k o X nL pc L (st) ws := by
  obtain ⟨p, e, R, s, m, args, below, meth, c, A⟩ := X
  obtain ⟨⟨hx, hb, hml, hown, hts⟩, hK, hA, hr, hlk, hR⟩ := C
  intro H locs ls hP hD hS hl
  refine lv_bipush (v := xi n) hx hb hd hv ?_
  exact kk H locs ls hP hD hS hl

theorem xj_sipush {l : Launch} {D : va_G} {k : Nat → ClassId} {o : xO} {X : xX} {cc : ByteArray} {nL : Nat} {own : String} {Ts : List Cond} {ret : Option FieldType} {rm : Room} (C : xC D k X cc nL own Ts ret rm) {pc : Nat} {L : List (Nat × Value)} {st : List Value} {ws : va_W} {n : Int} (hv : (Int16.ofInt n).toInt32 = xi n) (hd : decode cc pc = .ok (.sipush n, 3)) (kk : xJ l D k o X nL (pc + 3) L (.int (xi n) :: st) ws) : xJ l D k o X nL pc L (st) ws := by
  obtain ⟨p, e, R, s, m, args, below, meth, c, A⟩ := X
  obtain ⟨⟨hx, hb, hml, hown, hts⟩, hK, hA, hr, hlk, hR⟩ := C
  intro H locs ls hP hD hS hl
  refine lv_sipush (v := xi n) hx hb hd hv ?_
  exact kk H locs ls hP hD hS hl

theorem xj_lconst {l : Launch} {D : va_G} {k : Nat → ClassId} {o : xO} {X : xX} {cc : ByteArray} {nL : Nat} {own : String} {Ts : List Cond} {ret : Option FieldType} {rm : Room} (C : xC D k X cc nL own Ts ret rm) {pc : Nat} {L : List (Nat × Value)} {st : List Value} {ws : va_W} {n : Fin 2} {v : Int64} (hv : Int64.ofNat (n : Nat) = v) (hd : decode cc pc = .ok (.lconst n, 1)) (kk : xJ l D k o X nL (pc + 1) L (.long v :: st) ws) : xJ l D k o X nL pc L (st) ws := by
  obtain ⟨p, e, R, s, m, args, below, meth, c, A⟩ := X
  obtain ⟨⟨hx, hb, hml, hown, hts⟩, hK, hA, hr, hlk, hR⟩ := C
  intro H locs ls hP hD hS hl
  refine lv_lconst hx hb hd hv ?_
  exact kk H locs ls hP hD hS hl

theorem xj_dconst0 {l : Launch} {D : va_G} {k : Nat → ClassId} {o : xO} {X : xX} {cc : ByteArray} {nL : Nat} {own : String} {Ts : List Cond} {ret : Option FieldType} {rm : Room} (C : xC D k X cc nL own Ts ret rm) {pc : Nat} {L : List (Nat × Value)} {st : List Value} {ws : va_W}  (hd : decode cc pc = .ok (.dconst 0, 1)) (kk : xJ l D k o X nL (pc + 1) L (.double FP.dconst0 :: st) ws) : xJ l D k o X nL pc L (st) ws := by
  obtain ⟨p, e, R, s, m, args, below, meth, c, A⟩ := X
  obtain ⟨⟨hx, hb, hml, hown, hts⟩, hK, hA, hr, hlk, hR⟩ := C
  intro H locs ls hP hD hS hl
  refine lv_dconst0 hx hb hd ?_
  exact kk H locs ls hP hD hS hl

theorem xj_dconst1 {l : Launch} {D : va_G} {k : Nat → ClassId} {o : xO} {X : xX} {cc : ByteArray} {nL : Nat} {own : String} {Ts : List Cond} {ret : Option FieldType} {rm : Room} (C : xC D k X cc nL own Ts ret rm) {pc : Nat} {L : List (Nat × Value)} {st : List Value} {ws : va_W}  (hd : decode cc pc = .ok (.dconst 1, 1)) (kk : xJ l D k o X nL (pc + 1) L (.double FP.dconst1 :: st) ws) : xJ l D k o X nL pc L (st) ws := by
  obtain ⟨p, e, R, s, m, args, below, meth, c, A⟩ := X
  obtain ⟨⟨hx, hb, hml, hown, hts⟩, hK, hA, hr, hlk, hR⟩ := C
  intro H locs ls hP hD hS hl
  refine lv_dconst1 hx hb hd ?_
  exact kk H locs ls hP hD hS hl

theorem xj_ldc {l : Launch} {D : va_G} {k : Nat → ClassId} {o : xO} {X : xX} {cc : ByteArray} {nL : Nat} {own : String} {Ts : List Cond} {ret : Option FieldType} {rm : Room} (C : xC D k X cc nL own Ts ret rm) {pc : Nat} {L : List (Nat × Value)} {st : List Value} {ws : va_W} {index : Nat} {v : Int32} {n : Int} (hw : (Jvm.Cond.constant own index v) ∈ Ts) (hv : v = xi n) (hd : decode cc pc = .ok (.ldc index, 2)) (kk : xJ l D k o X nL (pc + 2) L (.int (xi n) :: st) ws) : xJ l D k o X nL pc L st ws := by
  obtain ⟨p, e, R, s, m, args, below, meth, c, A⟩ := X
  obtain ⟨⟨hx, hb, hml, hown, hts⟩, hK, hA, hr, hlk, hR⟩ := C
  intro H locs ls hP hD hS hl
  subst hv
  exact lv_ldc hx hb hown (hts _ hw) hd (kk H locs ls hP hD hS hl)

theorem xj_ldc2d {l : Launch} {D : va_G} {k : Nat → ClassId} {o : xO} {X : xX} {cc : ByteArray} {nL : Nat} {own : String} {Ts : List Cond} {ret : Option FieldType} {rm : Room} (C : xC D k X cc nL own Ts ret rm) {pc : Nat} {L : List (Nat × Value)} {st : List Value} {ws : va_W} {index : Nat} {v : UInt64} (hw : (Jvm.Cond.constantDouble own index v) ∈ Ts) (hd : decode cc pc = .ok (.ldc2_w index, 3)) (kk : xJ l D k o X nL (pc + 3) L (.double v :: st) ws) : xJ l D k o X nL pc L st ws := by
  obtain ⟨p, e, R, s, m, args, below, meth, c, A⟩ := X
  obtain ⟨⟨hx, hb, hml, hown, hts⟩, hK, hA, hr, hlk, hR⟩ := C
  intro H locs ls hP hD hS hl
  exact lv_ldc2d hx hb hown (hts _ hw) hd (kk H locs ls hP hD hS hl)

theorem xj_ldc2 {l : Launch} {D : va_G} {k : Nat → ClassId} {o : xO} {X : xX} {cc : ByteArray} {nL : Nat} {own : String} {Ts : List Cond} {ret : Option FieldType} {rm : Room} (C : xC D k X cc nL own Ts ret rm) {pc : Nat} {L : List (Nat × Value)} {st : List Value} {ws : va_W} {index : Nat} {v : Int64} (hw : (Jvm.Cond.constantLong own index v) ∈ Ts) (hd : decode cc pc = .ok (.ldc2_w index, 3)) (kk : xJ l D k o X nL (pc + 3) L (.long v :: st) ws) : xJ l D k o X nL pc L st ws := by
  obtain ⟨p, e, R, s, m, args, below, meth, c, A⟩ := X
  obtain ⟨⟨hx, hb, hml, hown, hts⟩, hK, hA, hr, hlk, hR⟩ := C
  intro H locs ls hP hD hS hl
  exact lv_ldc2 hx hb hown (hts _ hw) hd (kk H locs ls hP hD hS hl)

theorem xj_iload_n {l : Launch} {D : va_G} {k : Nat → ClassId} {o : xO} {X : xX} {cc : ByteArray} {nL : Nat} {own : String} {Ts : List Cond} {ret : Option FieldType} {rm : Room} (C : xC D k X cc nL own Ts ret rm) {pc : Nat} {L : List (Nat × Value)} {st : List Value} {ws : va_W} (q : Nat) {i : Fin 4} {j : Nat} {x : Int32} (hd : decode cc pc = .ok (.iload_n i, 1)) (hi : (i : Nat) = j) (hk : L[q]? = some (j, .int x)) (kk : xJ l D k o X nL (pc + 1) L (.int x :: st) ws) : xJ l D k o X nL pc L st ws := by
  obtain ⟨p, e, R, s, m, args, below, meth, c, A⟩ := X
  obtain ⟨⟨hx, hb, hml, hown, hts⟩, hK, hA, hr, hlk, hR⟩ := C
  intro H locs ls hP hD hS hl
  exact lv_iload_n hx hb hd hi (lv_at hl q hk) (kk H locs ls hP hD hS hl)

theorem xj_iload {l : Launch} {D : va_G} {k : Nat → ClassId} {o : xO} {X : xX} {cc : ByteArray} {nL : Nat} {own : String} {Ts : List Cond} {ret : Option FieldType} {rm : Room} (C : xC D k X cc nL own Ts ret rm) {pc : Nat} {L : List (Nat × Value)} {st : List Value} {ws : va_W} (q : Nat) {j : Nat} {x : Int32} (hd : decode cc pc = .ok (.iload j, 2)) (hk : L[q]? = some (j, .int x)) (kk : xJ l D k o X nL (pc + 2) L (.int x :: st) ws) : xJ l D k o X nL pc L st ws := by
  obtain ⟨p, e, R, s, m, args, below, meth, c, A⟩ := X
  obtain ⟨⟨hx, hb, hml, hown, hts⟩, hK, hA, hr, hlk, hR⟩ := C
  intro H locs ls hP hD hS hl
  exact lv_iload hx hb hd (lv_at hl q hk) (kk H locs ls hP hD hS hl)

theorem xj_istore_n {l : Launch} {D : va_G} {k : Nat → ClassId} {o : xO} {X : xX} {cc : ByteArray} {nL : Nat} {own : String} {Ts : List Cond} {ret : Option FieldType} {rm : Room} (C : xC D k X cc nL own Ts ret rm) {pc : Nat} {L : List (Nat × Value)} {st : List Value} {ws : va_W} {i : Fin 4} {j : Nat} {x : Int32} {L1 : List (Nat × Value)} (hd : decode cc pc = .ok (.istore_n i, 1)) (hi : (i : Nat) = j) (hn : j < nL) (hL : (j, Value.int x) :: L.filter (fun q => !(q.1 == j) && !(q.1 + 1 == j && q.2.category == 2)) = L1) (kk : xJ l D k o X nL (pc + 1) L1 st ws) : xJ l D k o X nL pc L (.int x :: st) ws := by
  obtain ⟨p, e, R, s, m, args, below, meth, c, A⟩ := X
  obtain ⟨⟨hx, hb, hml, hown, hts⟩, hK, hA, hr, hlk, hR⟩ := C
  intro H locs ls hP hD hS hl
  exact lv_istore_n hx hb hd hi hl hn hL (fun ls1 hl1 => kk H locs ls1 hP hD hS hl1)

theorem xj_istore {l : Launch} {D : va_G} {k : Nat → ClassId} {o : xO} {X : xX} {cc : ByteArray} {nL : Nat} {own : String} {Ts : List Cond} {ret : Option FieldType} {rm : Room} (C : xC D k X cc nL own Ts ret rm) {pc : Nat} {L : List (Nat × Value)} {st : List Value} {ws : va_W} {j : Nat} {x : Int32} {L1 : List (Nat × Value)} (hd : decode cc pc = .ok (.istore j, 2)) (hn : j < nL) (hL : (j, Value.int x) :: L.filter (fun q => !(q.1 == j) && !(q.1 + 1 == j && q.2.category == 2)) = L1) (kk : xJ l D k o X nL (pc + 2) L1 st ws) : xJ l D k o X nL pc L (.int x :: st) ws := by
  obtain ⟨p, e, R, s, m, args, below, meth, c, A⟩ := X
  obtain ⟨⟨hx, hb, hml, hown, hts⟩, hK, hA, hr, hlk, hR⟩ := C
  intro H locs ls hP hD hS hl
  exact lv_istore hx hb hd hl hn hL (fun ls1 hl1 => kk H locs ls1 hP hD hS hl1)

theorem xj_lload_n {l : Launch} {D : va_G} {k : Nat → ClassId} {o : xO} {X : xX} {cc : ByteArray} {nL : Nat} {own : String} {Ts : List Cond} {ret : Option FieldType} {rm : Room} (C : xC D k X cc nL own Ts ret rm) {pc : Nat} {L : List (Nat × Value)} {st : List Value} {ws : va_W} (q : Nat) {i : Fin 4} {j : Nat} {x : Int64} (hd : decode cc pc = .ok (.lload_n i, 1)) (hi : (i : Nat) = j) (hk : L[q]? = some (j, .long x)) (kk : xJ l D k o X nL (pc + 1) L (.long x :: st) ws) : xJ l D k o X nL pc L st ws := by
  obtain ⟨p, e, R, s, m, args, below, meth, c, A⟩ := X
  obtain ⟨⟨hx, hb, hml, hown, hts⟩, hK, hA, hr, hlk, hR⟩ := C
  intro H locs ls hP hD hS hl
  exact lv_lload_n hx hb hd hi (lv_at hl q hk) (kk H locs ls hP hD hS hl)

theorem xj_lload {l : Launch} {D : va_G} {k : Nat → ClassId} {o : xO} {X : xX} {cc : ByteArray} {nL : Nat} {own : String} {Ts : List Cond} {ret : Option FieldType} {rm : Room} (C : xC D k X cc nL own Ts ret rm) {pc : Nat} {L : List (Nat × Value)} {st : List Value} {ws : va_W} (q : Nat) {j : Nat} {x : Int64} (hd : decode cc pc = .ok (.lload j, 2)) (hk : L[q]? = some (j, .long x)) (kk : xJ l D k o X nL (pc + 2) L (.long x :: st) ws) : xJ l D k o X nL pc L st ws := by
  obtain ⟨p, e, R, s, m, args, below, meth, c, A⟩ := X
  obtain ⟨⟨hx, hb, hml, hown, hts⟩, hK, hA, hr, hlk, hR⟩ := C
  intro H locs ls hP hD hS hl
  exact lv_lload hx hb hd (lv_at hl q hk) (kk H locs ls hP hD hS hl)

theorem xj_lstore_n {l : Launch} {D : va_G} {k : Nat → ClassId} {o : xO} {X : xX} {cc : ByteArray} {nL : Nat} {own : String} {Ts : List Cond} {ret : Option FieldType} {rm : Room} (C : xC D k X cc nL own Ts ret rm) {pc : Nat} {L : List (Nat × Value)} {st : List Value} {ws : va_W} {i : Fin 4} {j : Nat} {x : Int64} {L1 : List (Nat × Value)} (hd : decode cc pc = .ok (.lstore_n i, 1)) (hi : (i : Nat) = j) (hn : j + 1 < nL) (hL : (j, Value.long x) :: L.filter (fun q => !(q.1 == j) && (!(q.1 == j + 1) && !(q.1 + 1 == j && q.2.category == 2))) = L1) (kk : xJ l D k o X nL (pc + 1) L1 st ws) : xJ l D k o X nL pc L (.long x :: st) ws := by
  obtain ⟨p, e, R, s, m, args, below, meth, c, A⟩ := X
  obtain ⟨⟨hx, hb, hml, hown, hts⟩, hK, hA, hr, hlk, hR⟩ := C
  intro H locs ls hP hD hS hl
  exact lv_lstore_n hx hb hd hi hl hn hL (fun ls1 hl1 => kk H locs ls1 hP hD hS hl1)

theorem xj_lstore {l : Launch} {D : va_G} {k : Nat → ClassId} {o : xO} {X : xX} {cc : ByteArray} {nL : Nat} {own : String} {Ts : List Cond} {ret : Option FieldType} {rm : Room} (C : xC D k X cc nL own Ts ret rm) {pc : Nat} {L : List (Nat × Value)} {st : List Value} {ws : va_W} {j : Nat} {x : Int64} {L1 : List (Nat × Value)} (hd : decode cc pc = .ok (.lstore j, 2)) (hn : j + 1 < nL) (hL : (j, Value.long x) :: L.filter (fun q => !(q.1 == j) && (!(q.1 == j + 1) && !(q.1 + 1 == j && q.2.category == 2))) = L1) (kk : xJ l D k o X nL (pc + 2) L1 st ws) : xJ l D k o X nL pc L (.long x :: st) ws := by
  obtain ⟨p, e, R, s, m, args, below, meth, c, A⟩ := X
  obtain ⟨⟨hx, hb, hml, hown, hts⟩, hK, hA, hr, hlk, hR⟩ := C
  intro H locs ls hP hD hS hl
  exact lv_lstore hx hb hd hl hn hL (fun ls1 hl1 => kk H locs ls1 hP hD hS hl1)

theorem xj_dload_n {l : Launch} {D : va_G} {k : Nat → ClassId} {o : xO} {X : xX} {cc : ByteArray} {nL : Nat} {own : String} {Ts : List Cond} {ret : Option FieldType} {rm : Room} (C : xC D k X cc nL own Ts ret rm) {pc : Nat} {L : List (Nat × Value)} {st : List Value} {ws : va_W} (q : Nat) {i : Fin 4} {j : Nat} {x : UInt64} (hd : decode cc pc = .ok (.dload_n i, 1)) (hi : (i : Nat) = j) (hk : L[q]? = some (j, .double x)) (kk : xJ l D k o X nL (pc + 1) L (.double x :: st) ws) : xJ l D k o X nL pc L st ws := by
  obtain ⟨p, e, R, s, m, args, below, meth, c, A⟩ := X
  obtain ⟨⟨hx, hb, hml, hown, hts⟩, hK, hA, hr, hlk, hR⟩ := C
  intro H locs ls hP hD hS hl
  exact lv_dload_n hx hb hd hi (lv_at hl q hk) (kk H locs ls hP hD hS hl)

theorem xj_dload {l : Launch} {D : va_G} {k : Nat → ClassId} {o : xO} {X : xX} {cc : ByteArray} {nL : Nat} {own : String} {Ts : List Cond} {ret : Option FieldType} {rm : Room} (C : xC D k X cc nL own Ts ret rm) {pc : Nat} {L : List (Nat × Value)} {st : List Value} {ws : va_W} (q : Nat) {j : Nat} {x : UInt64} (hd : decode cc pc = .ok (.dload j, 2)) (hk : L[q]? = some (j, .double x)) (kk : xJ l D k o X nL (pc + 2) L (.double x :: st) ws) : xJ l D k o X nL pc L st ws := by
  obtain ⟨p, e, R, s, m, args, below, meth, c, A⟩ := X
  obtain ⟨⟨hx, hb, hml, hown, hts⟩, hK, hA, hr, hlk, hR⟩ := C
  intro H locs ls hP hD hS hl
  exact lv_dload hx hb hd (lv_at hl q hk) (kk H locs ls hP hD hS hl)

theorem xj_dstore_n {l : Launch} {D : va_G} {k : Nat → ClassId} {o : xO} {X : xX} {cc : ByteArray} {nL : Nat} {own : String} {Ts : List Cond} {ret : Option FieldType} {rm : Room} (C : xC D k X cc nL own Ts ret rm) {pc : Nat} {L : List (Nat × Value)} {st : List Value} {ws : va_W} {i : Fin 4} {j : Nat} {x : UInt64} {L1 : List (Nat × Value)} (hd : decode cc pc = .ok (.dstore_n i, 1)) (hi : (i : Nat) = j) (hn : j + 1 < nL) (hL : (j, Value.double x) :: L.filter (fun q => !(q.1 == j) && (!(q.1 == j + 1) && !(q.1 + 1 == j && q.2.category == 2))) = L1) (kk : xJ l D k o X nL (pc + 1) L1 st ws) : xJ l D k o X nL pc L (.double x :: st) ws := by
  obtain ⟨p, e, R, s, m, args, below, meth, c, A⟩ := X
  obtain ⟨⟨hx, hb, hml, hown, hts⟩, hK, hA, hr, hlk, hR⟩ := C
  intro H locs ls hP hD hS hl
  exact lv_dstore_n hx hb hd hi hl hn hL (fun ls1 hl1 => kk H locs ls1 hP hD hS hl1)

theorem xj_dstore {l : Launch} {D : va_G} {k : Nat → ClassId} {o : xO} {X : xX} {cc : ByteArray} {nL : Nat} {own : String} {Ts : List Cond} {ret : Option FieldType} {rm : Room} (C : xC D k X cc nL own Ts ret rm) {pc : Nat} {L : List (Nat × Value)} {st : List Value} {ws : va_W} {j : Nat} {x : UInt64} {L1 : List (Nat × Value)} (hd : decode cc pc = .ok (.dstore j, 2)) (hn : j + 1 < nL) (hL : (j, Value.double x) :: L.filter (fun q => !(q.1 == j) && (!(q.1 == j + 1) && !(q.1 + 1 == j && q.2.category == 2))) = L1) (kk : xJ l D k o X nL (pc + 2) L1 st ws) : xJ l D k o X nL pc L (.double x :: st) ws := by
  obtain ⟨p, e, R, s, m, args, below, meth, c, A⟩ := X
  obtain ⟨⟨hx, hb, hml, hown, hts⟩, hK, hA, hr, hlk, hR⟩ := C
  intro H locs ls hP hD hS hl
  exact lv_dstore hx hb hd hl hn hL (fun ls1 hl1 => kk H locs ls1 hP hD hS hl1)

theorem xj_aload_n {l : Launch} {D : va_G} {k : Nat → ClassId} {o : xO} {X : xX} {cc : ByteArray} {nL : Nat} {own : String} {Ts : List Cond} {ret : Option FieldType} {rm : Room} (C : xC D k X cc nL own Ts ret rm) {pc : Nat} {L : List (Nat × Value)} {st : List Value} {ws : va_W} (q : Nat) {i : Fin 4} {j : Nat} {x : Nat} (hd : decode cc pc = .ok (.aload_n i, 1)) (hi : (i : Nat) = j) (hk : L[q]? = some (j, .ref x)) (kk : xJ l D k o X nL (pc + 1) L (.ref x :: st) ws) : xJ l D k o X nL pc L st ws := by
  obtain ⟨p, e, R, s, m, args, below, meth, c, A⟩ := X
  obtain ⟨⟨hx, hb, hml, hown, hts⟩, hK, hA, hr, hlk, hR⟩ := C
  intro H locs ls hP hD hS hl
  exact lv_aload_n hx hb hd hi (lv_at hl q hk) (kk H locs ls hP hD hS hl)

theorem xj_aload {l : Launch} {D : va_G} {k : Nat → ClassId} {o : xO} {X : xX} {cc : ByteArray} {nL : Nat} {own : String} {Ts : List Cond} {ret : Option FieldType} {rm : Room} (C : xC D k X cc nL own Ts ret rm) {pc : Nat} {L : List (Nat × Value)} {st : List Value} {ws : va_W} (q : Nat) {j : Nat} {x : Nat} (hd : decode cc pc = .ok (.aload j, 2)) (hk : L[q]? = some (j, .ref x)) (kk : xJ l D k o X nL (pc + 2) L (.ref x :: st) ws) : xJ l D k o X nL pc L st ws := by
  obtain ⟨p, e, R, s, m, args, below, meth, c, A⟩ := X
  obtain ⟨⟨hx, hb, hml, hown, hts⟩, hK, hA, hr, hlk, hR⟩ := C
  intro H locs ls hP hD hS hl
  exact lv_aload hx hb hd (lv_at hl q hk) (kk H locs ls hP hD hS hl)

theorem xj_astore_n {l : Launch} {D : va_G} {k : Nat → ClassId} {o : xO} {X : xX} {cc : ByteArray} {nL : Nat} {own : String} {Ts : List Cond} {ret : Option FieldType} {rm : Room} (C : xC D k X cc nL own Ts ret rm) {pc : Nat} {L : List (Nat × Value)} {st : List Value} {ws : va_W} {i : Fin 4} {j : Nat} {x : Nat} {L1 : List (Nat × Value)} (hd : decode cc pc = .ok (.astore_n i, 1)) (hi : (i : Nat) = j) (hn : j < nL) (hL : (j, Value.ref x) :: L.filter (fun q => !(q.1 == j) && !(q.1 + 1 == j && q.2.category == 2)) = L1) (kk : xJ l D k o X nL (pc + 1) L1 st ws) : xJ l D k o X nL pc L (.ref x :: st) ws := by
  obtain ⟨p, e, R, s, m, args, below, meth, c, A⟩ := X
  obtain ⟨⟨hx, hb, hml, hown, hts⟩, hK, hA, hr, hlk, hR⟩ := C
  intro H locs ls hP hD hS hl
  exact lv_astore_n hx hb hd hi hl hn hL (fun ls1 hl1 => kk H locs ls1 hP hD hS hl1)

theorem xj_astore {l : Launch} {D : va_G} {k : Nat → ClassId} {o : xO} {X : xX} {cc : ByteArray} {nL : Nat} {own : String} {Ts : List Cond} {ret : Option FieldType} {rm : Room} (C : xC D k X cc nL own Ts ret rm) {pc : Nat} {L : List (Nat × Value)} {st : List Value} {ws : va_W} {j : Nat} {x : Nat} {L1 : List (Nat × Value)} (hd : decode cc pc = .ok (.astore j, 2)) (hn : j < nL) (hL : (j, Value.ref x) :: L.filter (fun q => !(q.1 == j) && !(q.1 + 1 == j && q.2.category == 2)) = L1) (kk : xJ l D k o X nL (pc + 2) L1 st ws) : xJ l D k o X nL pc L (.ref x :: st) ws := by
  obtain ⟨p, e, R, s, m, args, below, meth, c, A⟩ := X
  obtain ⟨⟨hx, hb, hml, hown, hts⟩, hK, hA, hr, hlk, hR⟩ := C
  intro H locs ls hP hD hS hl
  exact lv_astore hx hb hd hl hn hL (fun ls1 hl1 => kk H locs ls1 hP hD hS hl1)

theorem xj_iinc {l : Launch} {D : va_G} {k : Nat → ClassId} {o : xO} {X : xX} {cc : ByteArray} {nL : Nat} {own : String} {Ts : List Cond} {ret : Option FieldType} {rm : Room} (C : xC D k X cc nL own Ts ret rm) {pc : Nat} {L : List (Nat × Value)} {st : List Value} {ws : va_W} (q : Nat) {j : Nat} {n x : Int} {L1 : List (Nat × Value)} (hd : decode cc pc = .ok (.iinc j n, 3)) (hk : L[q]? = some (j, .int (xi x))) (hn : j < nL) (hL : (j, Value.int (xi (x + n))) :: L.filter (fun q => !(q.1 == j) && !(q.1 + 1 == j && q.2.category == 2)) = L1) (kk : xJ l D k o X nL (pc + 3) L1 st ws) : xJ l D k o X nL pc L st ws := by
  obtain ⟨p, e, R, s, m, args, below, meth, c, A⟩ := X
  obtain ⟨⟨hx, hb, hml, hown, hts⟩, hK, hA, hr, hlk, hR⟩ := C
  intro H locs ls hP hD hS hl
  exact lv_iinc hx hb hd hl hk (xi_add x n) hn hL (fun ls1 hl1 => kk H locs ls1 hP hD hS hl1)

theorem xj_loc {l : Launch} {D : va_G} {k : Nat → ClassId} {o : xO} {X : xX} {cc : ByteArray} {nL : Nat} {own : String} {Ts : List Cond} {ret : Option FieldType} {rm : Room} (C : xC D k X cc nL own Ts ret rm) {pc : Nat} {L : List (Nat × Value)} {st : List Value} {ws : va_W} (qs : List Nat) {L1 : List (Nat × Value)} (hL : lv_pick L qs = L1) (kk : xJ l D k o X nL pc L1 st ws) : xJ l D k o X nL pc L st ws := by
  obtain ⟨p, e, R, s, m, args, below, meth, c, A⟩ := X
  obtain ⟨⟨hx, hb, hml, hown, hts⟩, hK, hA, hr, hlk, hR⟩ := C
  intro H locs ls hP hD hS hl
  exact kk H locs ls hP hD hS (lv_sub hl qs hL)

theorem xj_i2l {l : Launch} {D : va_G} {k : Nat → ClassId} {o : xO} {X : xX} {cc : ByteArray} {nL : Nat} {own : String} {Ts : List Cond} {ret : Option FieldType} {rm : Room} (C : xC D k X cc nL own Ts ret rm) {pc : Nat} {L : List (Nat × Value)} {st : List Value} {ws : va_W} {x : Int} (hd : decode cc pc = .ok (.i2l, 1)) (kk : xJ l D k o X nL (pc + 1) L (.long (xi x).toInt64 :: st) ws) : xJ l D k o X nL pc L (.int (xi x) :: st) ws := by
  obtain ⟨p, e, R, s, m, args, below, meth, c, A⟩ := X
  obtain ⟨⟨hx, hb, hml, hown, hts⟩, hK, hA, hr, hlk, hR⟩ := C
  intro H locs ls hP hD hS hl
  refine lv_i2l hx hb hd rfl ?_
  exact kk H locs ls hP hD hS hl

theorem xj_l2i {l : Launch} {D : va_G} {k : Nat → ClassId} {o : xO} {X : xX} {cc : ByteArray} {nL : Nat} {own : String} {Ts : List Cond} {ret : Option FieldType} {rm : Room} (C : xC D k X cc nL own Ts ret rm) {pc : Nat} {L : List (Nat × Value)} {st : List Value} {ws : va_W} {x : Int64} (hd : decode cc pc = .ok (.l2i, 1)) (kk : xJ l D k o X nL (pc + 1) L (.int (xi x.toInt32.toInt) :: st) ws) : xJ l D k o X nL pc L (.long x :: st) ws := by
  obtain ⟨p, e, R, s, m, args, below, meth, c, A⟩ := X
  obtain ⟨⟨hx, hb, hml, hown, hts⟩, hK, hA, hr, hlk, hR⟩ := C
  intro H locs ls hP hD hS hl
  refine lv_l2i hx hb hd (xi_of _).symm ?_
  exact kk H locs ls hP hD hS hl

theorem xj_i2d {l : Launch} {D : va_G} {k : Nat → ClassId} {o : xO} {X : xX} {cc : ByteArray} {nL : Nat} {own : String} {Ts : List Cond} {ret : Option FieldType} {rm : Room} (C : xC D k X cc nL own Ts ret rm) {pc : Nat} {L : List (Nat × Value)} {st : List Value} {ws : va_W} {x : Int} (hd : decode cc pc = .ok (.i2d, 1)) (kk : xJ l D k o X nL (pc + 1) L (.double (FP.i2d (xi x)) :: st) ws) : xJ l D k o X nL pc L (.int (xi x) :: st) ws := by
  obtain ⟨p, e, R, s, m, args, below, meth, c, A⟩ := X
  obtain ⟨⟨hx, hb, hml, hown, hts⟩, hK, hA, hr, hlk, hR⟩ := C
  intro H locs ls hP hD hS hl
  refine lv_i2d hx hb hd ?_
  exact kk H locs ls hP hD hS hl

theorem xj_ladd {l : Launch} {D : va_G} {k : Nat → ClassId} {o : xO} {X : xX} {cc : ByteArray} {nL : Nat} {own : String} {Ts : List Cond} {ret : Option FieldType} {rm : Room} (C : xC D k X cc nL own Ts ret rm) {pc : Nat} {L : List (Nat × Value)} {st : List Value} {ws : va_W} {x y : Int64} (hd : decode cc pc = .ok (.ladd, 1)) (kk : xJ l D k o X nL (pc + 1) L (.long (x + y) :: st) ws) : xJ l D k o X nL pc L (.long y :: .long x :: st) ws := by
  obtain ⟨p, e, R, s, m, args, below, meth, c, A⟩ := X
  obtain ⟨⟨hx, hb, hml, hown, hts⟩, hK, hA, hr, hlk, hR⟩ := C
  intro H locs ls hP hD hS hl
  refine lv_ladd hx hb hd ?_
  exact kk H locs ls hP hD hS hl

theorem xj_lsub {l : Launch} {D : va_G} {k : Nat → ClassId} {o : xO} {X : xX} {cc : ByteArray} {nL : Nat} {own : String} {Ts : List Cond} {ret : Option FieldType} {rm : Room} (C : xC D k X cc nL own Ts ret rm) {pc : Nat} {L : List (Nat × Value)} {st : List Value} {ws : va_W} {x y : Int64} (hd : decode cc pc = .ok (.lsub, 1)) (kk : xJ l D k o X nL (pc + 1) L (.long (x - y) :: st) ws) : xJ l D k o X nL pc L (.long y :: .long x :: st) ws := by
  obtain ⟨p, e, R, s, m, args, below, meth, c, A⟩ := X
  obtain ⟨⟨hx, hb, hml, hown, hts⟩, hK, hA, hr, hlk, hR⟩ := C
  intro H locs ls hP hD hS hl
  refine lv_lsub hx hb hd ?_
  exact kk H locs ls hP hD hS hl

theorem xj_land {l : Launch} {D : va_G} {k : Nat → ClassId} {o : xO} {X : xX} {cc : ByteArray} {nL : Nat} {own : String} {Ts : List Cond} {ret : Option FieldType} {rm : Room} (C : xC D k X cc nL own Ts ret rm) {pc : Nat} {L : List (Nat × Value)} {st : List Value} {ws : va_W} {x y : Int64} (hd : decode cc pc = .ok (.land, 1)) (kk : xJ l D k o X nL (pc + 1) L (.long (x &&& y) :: st) ws) : xJ l D k o X nL pc L (.long y :: .long x :: st) ws := by
  obtain ⟨p, e, R, s, m, args, below, meth, c, A⟩ := X
  obtain ⟨⟨hx, hb, hml, hown, hts⟩, hK, hA, hr, hlk, hR⟩ := C
  intro H locs ls hP hD hS hl
  refine lv_land hx hb hd ?_
  exact kk H locs ls hP hD hS hl

theorem xj_lor {l : Launch} {D : va_G} {k : Nat → ClassId} {o : xO} {X : xX} {cc : ByteArray} {nL : Nat} {own : String} {Ts : List Cond} {ret : Option FieldType} {rm : Room} (C : xC D k X cc nL own Ts ret rm) {pc : Nat} {L : List (Nat × Value)} {st : List Value} {ws : va_W} {x y : Int64} (hd : decode cc pc = .ok (.lor, 1)) (kk : xJ l D k o X nL (pc + 1) L (.long (x ||| y) :: st) ws) : xJ l D k o X nL pc L (.long y :: .long x :: st) ws := by
  obtain ⟨p, e, R, s, m, args, below, meth, c, A⟩ := X
  obtain ⟨⟨hx, hb, hml, hown, hts⟩, hK, hA, hr, hlk, hR⟩ := C
  intro H locs ls hP hD hS hl
  refine lv_lor hx hb hd ?_
  exact kk H locs ls hP hD hS hl

theorem xj_lxor {l : Launch} {D : va_G} {k : Nat → ClassId} {o : xO} {X : xX} {cc : ByteArray} {nL : Nat} {own : String} {Ts : List Cond} {ret : Option FieldType} {rm : Room} (C : xC D k X cc nL own Ts ret rm) {pc : Nat} {L : List (Nat × Value)} {st : List Value} {ws : va_W} {x y : Int64} (hd : decode cc pc = .ok (.lxor, 1)) (kk : xJ l D k o X nL (pc + 1) L (.long (x ^^^ y) :: st) ws) : xJ l D k o X nL pc L (.long y :: .long x :: st) ws := by
  obtain ⟨p, e, R, s, m, args, below, meth, c, A⟩ := X
  obtain ⟨⟨hx, hb, hml, hown, hts⟩, hK, hA, hr, hlk, hR⟩ := C
  intro H locs ls hP hD hS hl
  refine lv_lxor hx hb hd ?_
  exact kk H locs ls hP hD hS hl

theorem xj_lshl {l : Launch} {D : va_G} {k : Nat → ClassId} {o : xO} {X : xX} {cc : ByteArray} {nL : Nat} {own : String} {Ts : List Cond} {ret : Option FieldType} {rm : Room} (C : xC D k X cc nL own Ts ret rm) {pc : Nat} {L : List (Nat × Value)} {st : List Value} {ws : va_W} {x : Int64} {y : Int} (hd : decode cc pc = .ok (.lshl, 1)) (kk : xJ l D k o X nL (pc + 1) L (.long (x <<< ((xi y).toInt64 &&& 63)) :: st) ws) : xJ l D k o X nL pc L (.int (xi y) :: .long x :: st) ws := by
  obtain ⟨p, e, R, s, m, args, below, meth, c, A⟩ := X
  obtain ⟨⟨hx, hb, hml, hown, hts⟩, hK, hA, hr, hlk, hR⟩ := C
  intro H locs ls hP hD hS hl
  refine lv_lshl hx hb hd rfl ?_
  exact kk H locs ls hP hD hS hl

theorem xj_lshr {l : Launch} {D : va_G} {k : Nat → ClassId} {o : xO} {X : xX} {cc : ByteArray} {nL : Nat} {own : String} {Ts : List Cond} {ret : Option FieldType} {rm : Room} (C : xC D k X cc nL own Ts ret rm) {pc : Nat} {L : List (Nat × Value)} {st : List Value} {ws : va_W} {x : Int64} {y : Int} (hd : decode cc pc = .ok (.lshr, 1)) (kk : xJ l D k o X nL (pc + 1) L (.long (x >>> ((xi y).toInt64 &&& 63)) :: st) ws) : xJ l D k o X nL pc L (.int (xi y) :: .long x :: st) ws := by
  obtain ⟨p, e, R, s, m, args, below, meth, c, A⟩ := X
  obtain ⟨⟨hx, hb, hml, hown, hts⟩, hK, hA, hr, hlk, hR⟩ := C
  intro H locs ls hP hD hS hl
  refine lv_lshr hx hb hd rfl ?_
  exact kk H locs ls hP hD hS hl

def xb_lcmp (x y : Int64) : Int := if x > y then 1 else if x = y then 0 else -1
theorem xb_lcmp_i (x y : Int64) : lg_cmp x y = xi (xb_lcmp x y) := by
  unfold lg_cmp xb_lcmp
  split
  · rfl
  · split <;> rfl
theorem xj_lcmp {l : Launch} {D : va_G} {k : Nat → ClassId} {o : xO} {X : xX} {cc : ByteArray} {nL : Nat} {own : String} {Ts : List Cond} {ret : Option FieldType} {rm : Room} (C : xC D k X cc nL own Ts ret rm) {pc : Nat} {L : List (Nat × Value)} {st : List Value} {ws : va_W} {x y : Int64} (hd : decode cc pc = .ok (.lcmp, 1)) (kk : xJ l D k o X nL (pc + 1) L (.int (xi (xb_lcmp x y)) :: st) ws) : xJ l D k o X nL pc L (.long y :: .long x :: st) ws := by
  obtain ⟨p, e, R, s, m, args, below, meth, c, A⟩ := X
  obtain ⟨⟨hx, hb, hml, hown, hts⟩, hK, hA, hr, hlk, hR⟩ := C
  intro H locs ls hP hD hS hl
  refine W.lcmp hx hb hd ?_
  rw [xb_lcmp_i]
  exact kk H locs ls hP hD hS hl

theorem xj_dadd {l : Launch} {D : va_G} {k : Nat → ClassId} {o : xO} {X : xX} {cc : ByteArray} {nL : Nat} {own : String} {Ts : List Cond} {ret : Option FieldType} {rm : Room} (C : xC D k X cc nL own Ts ret rm) {pc : Nat} {L : List (Nat × Value)} {st : List Value} {ws : va_W} {x y : UInt64} (hg : vf_n64 (FP.dadd x y)) (hd : decode cc pc = .ok (.dadd, 1)) (kk : xJ l D k o X nL (pc + 1) L (.double (FP.dadd x y) :: st) ws) : xJ l D k o X nL pc L (.double y :: .double x :: st) ws := by
  obtain ⟨p, e, R, s, m, args, below, meth, c, A⟩ := X
  obtain ⟨⟨hx, hb, hml, hown, hts⟩, hK, hA, hr, hlk, hR⟩ := C
  intro H locs ls hP hD hS hl
  refine lv_dadd hx hb hd hg ?_
  exact kk H locs ls hP hD hS hl

theorem xj_dsub {l : Launch} {D : va_G} {k : Nat → ClassId} {o : xO} {X : xX} {cc : ByteArray} {nL : Nat} {own : String} {Ts : List Cond} {ret : Option FieldType} {rm : Room} (C : xC D k X cc nL own Ts ret rm) {pc : Nat} {L : List (Nat × Value)} {st : List Value} {ws : va_W} {x y : UInt64} (hg : vf_n64 (FP.dsub x y)) (hd : decode cc pc = .ok (.dsub, 1)) (kk : xJ l D k o X nL (pc + 1) L (.double (FP.dsub x y) :: st) ws) : xJ l D k o X nL pc L (.double y :: .double x :: st) ws := by
  obtain ⟨p, e, R, s, m, args, below, meth, c, A⟩ := X
  obtain ⟨⟨hx, hb, hml, hown, hts⟩, hK, hA, hr, hlk, hR⟩ := C
  intro H locs ls hP hD hS hl
  refine lv_dsub hx hb hd hg ?_
  exact kk H locs ls hP hD hS hl

theorem xj_dmul {l : Launch} {D : va_G} {k : Nat → ClassId} {o : xO} {X : xX} {cc : ByteArray} {nL : Nat} {own : String} {Ts : List Cond} {ret : Option FieldType} {rm : Room} (C : xC D k X cc nL own Ts ret rm) {pc : Nat} {L : List (Nat × Value)} {st : List Value} {ws : va_W} {x y : UInt64} (hg : vf_n64 (FP.dmul x y)) (hd : decode cc pc = .ok (.dmul, 1)) (kk : xJ l D k o X nL (pc + 1) L (.double (FP.dmul x y) :: st) ws) : xJ l D k o X nL pc L (.double y :: .double x :: st) ws := by
  obtain ⟨p, e, R, s, m, args, below, meth, c, A⟩ := X
  obtain ⟨⟨hx, hb, hml, hown, hts⟩, hK, hA, hr, hlk, hR⟩ := C
  intro H locs ls hP hD hS hl
  refine lv_dmul hx hb hd hg ?_
  exact kk H locs ls hP hD hS hl

def xb_dcmp (op : CmpOp) (x y : UInt64) : Int := (Op.cmpValue (FP.dcmp x y) op).toInt
theorem xj_dcmp {l : Launch} {D : va_G} {k : Nat → ClassId} {o : xO} {X : xX} {cc : ByteArray} {nL : Nat} {own : String} {Ts : List Cond} {ret : Option FieldType} {rm : Room} (C : xC D k X cc nL own Ts ret rm) {pc : Nat} {L : List (Nat × Value)} {st : List Value} {ws : va_W} {op : CmpOp} {x y : UInt64} (hd : decode cc pc = .ok (.dcmp op, 1)) (kk : xJ l D k o X nL (pc + 1) L (.int (xi (xb_dcmp op x y)) :: st) ws) : xJ l D k o X nL pc L (.double y :: .double x :: st) ws := by
  obtain ⟨p, e, R, s, m, args, below, meth, c, A⟩ := X
  obtain ⟨⟨hx, hb, hml, hown, hts⟩, hK, hA, hr, hlk, hR⟩ := C
  intro H locs ls hP hD hS hl
  refine lv_dcmp hx hb hd ?_
  rw [xb_dcmp, xi_of] at kk
  exact kk H locs ls hP hD hS hl

theorem xj_dup {l : Launch} {D : va_G} {k : Nat → ClassId} {o : xO} {X : xX} {cc : ByteArray} {nL : Nat} {own : String} {Ts : List Cond} {ret : Option FieldType} {rm : Room} (C : xC D k X cc nL own Ts ret rm) {pc : Nat} {L : List (Nat × Value)} {st : List Value} {ws : va_W} {va : Value} (hv : va.category = 1) (hd : decode cc pc = .ok (.dup, 1)) (kk : xJ l D k o X nL (pc + 1) L (va :: va :: st) ws) : xJ l D k o X nL pc L (va :: st) ws := by
  obtain ⟨p, e, R, s, m, args, below, meth, c, A⟩ := X
  obtain ⟨⟨hx, hb, hml, hown, hts⟩, hK, hA, hr, hlk, hR⟩ := C
  intro H locs ls hP hD hS hl
  refine lv_dup hx hb hd hv ?_
  exact kk H locs ls hP hD hS hl

theorem xj_pop {l : Launch} {D : va_G} {k : Nat → ClassId} {o : xO} {X : xX} {cc : ByteArray} {nL : Nat} {own : String} {Ts : List Cond} {ret : Option FieldType} {rm : Room} (C : xC D k X cc nL own Ts ret rm) {pc : Nat} {L : List (Nat × Value)} {st : List Value} {ws : va_W} {va : Value} (hv : va.category = 1) (hd : decode cc pc = .ok (.pop, 1)) (kk : xJ l D k o X nL (pc + 1) L (st) ws) : xJ l D k o X nL pc L (va :: st) ws := by
  obtain ⟨p, e, R, s, m, args, below, meth, c, A⟩ := X
  obtain ⟨⟨hx, hb, hml, hown, hts⟩, hK, hA, hr, hlk, hR⟩ := C
  intro H locs ls hP hD hS hl
  refine lv_pop hx hb hd hv ?_
  exact kk H locs ls hP hD hS hl

theorem xj_dup2 {l : Launch} {D : va_G} {k : Nat → ClassId} {o : xO} {X : xX} {cc : ByteArray} {nL : Nat} {own : String} {Ts : List Cond} {ret : Option FieldType} {rm : Room} (C : xC D k X cc nL own Ts ret rm) {pc : Nat} {L : List (Nat × Value)} {st : List Value} {ws : va_W} {va vb : Value} (hv : va.category = 1) (hv2 : vb.category = 1) (hd : decode cc pc = .ok (.dup2, 1)) (kk : xJ l D k o X nL (pc + 1) L (va :: vb :: va :: vb :: st) ws) : xJ l D k o X nL pc L (va :: vb :: st) ws := by
  obtain ⟨p, e, R, s, m, args, below, meth, c, A⟩ := X
  obtain ⟨⟨hx, hb, hml, hown, hts⟩, hK, hA, hr, hlk, hR⟩ := C
  intro H locs ls hP hD hS hl
  refine lv_dup2_11 hx hb hd hv hv2 ?_
  exact kk H locs ls hP hD hS hl

theorem xj_icmp_lt {l : Launch} {D : va_G} {k : Nat → ClassId} {o : xO} {X : xX} {cc : ByteArray} {nL : Nat} {own : String} {Ts : List Cond} {ret : Option FieldType} {rm : Room} (C : xC D k X cc nL own Ts ret rm) {pc : Nat} {L : List (Nat × Value)} {st : List Value} {ws : va_W} {off : Int} {tgt : Nat} {x y : Int} (hd : decode cc pc = .ok (.if_icmp .lt off, 3)) (ht : (pc : Int) + off = (tgt : Int)) (hg : xr x ∧ xr y) (kt : x < y → xJ l D k o X nL tgt L st ws) (kf : ¬ x < y → xJ l D k o X nL (pc + 3) L st ws) : xJ l D k o X nL pc L (.int (xi y) :: .int (xi x) :: st) ws := by
  obtain ⟨p, e, R, s, m, args, below, meth, c, A⟩ := X
  obtain ⟨⟨hx, hb, hml, hown, hts⟩, hK, hA, hr, hlk, hR⟩ := C
  intro H locs ls hP hD hS hl
  exact lv_icmp_lt hx hb hd ht (fun c => kt ((xi_lt hg.1 hg.2).mp c) H locs ls hP hD hS hl) (fun c => kf (fun c2 => c ((xi_lt hg.1 hg.2).mpr c2)) H locs ls hP hD hS hl)

theorem xj_icmp_ge {l : Launch} {D : va_G} {k : Nat → ClassId} {o : xO} {X : xX} {cc : ByteArray} {nL : Nat} {own : String} {Ts : List Cond} {ret : Option FieldType} {rm : Room} (C : xC D k X cc nL own Ts ret rm) {pc : Nat} {L : List (Nat × Value)} {st : List Value} {ws : va_W} {off : Int} {tgt : Nat} {x y : Int} (hd : decode cc pc = .ok (.if_icmp .ge off, 3)) (ht : (pc : Int) + off = (tgt : Int)) (hg : xr x ∧ xr y) (kt : y ≤ x → xJ l D k o X nL tgt L st ws) (kf : ¬ y ≤ x → xJ l D k o X nL (pc + 3) L st ws) : xJ l D k o X nL pc L (.int (xi y) :: .int (xi x) :: st) ws := by
  obtain ⟨p, e, R, s, m, args, below, meth, c, A⟩ := X
  obtain ⟨⟨hx, hb, hml, hown, hts⟩, hK, hA, hr, hlk, hR⟩ := C
  intro H locs ls hP hD hS hl
  exact lv_icmp_ge hx hb hd ht (fun c => kt ((xi_le hg.2 hg.1).mp c) H locs ls hP hD hS hl) (fun c => kf (fun c2 => c ((xi_le hg.2 hg.1).mpr c2)) H locs ls hP hD hS hl)

theorem xj_icmp_gt {l : Launch} {D : va_G} {k : Nat → ClassId} {o : xO} {X : xX} {cc : ByteArray} {nL : Nat} {own : String} {Ts : List Cond} {ret : Option FieldType} {rm : Room} (C : xC D k X cc nL own Ts ret rm) {pc : Nat} {L : List (Nat × Value)} {st : List Value} {ws : va_W} {off : Int} {tgt : Nat} {x y : Int} (hd : decode cc pc = .ok (.if_icmp .gt off, 3)) (ht : (pc : Int) + off = (tgt : Int)) (hg : xr x ∧ xr y) (kt : y < x → xJ l D k o X nL tgt L st ws) (kf : ¬ y < x → xJ l D k o X nL (pc + 3) L st ws) : xJ l D k o X nL pc L (.int (xi y) :: .int (xi x) :: st) ws := by
  obtain ⟨p, e, R, s, m, args, below, meth, c, A⟩ := X
  obtain ⟨⟨hx, hb, hml, hown, hts⟩, hK, hA, hr, hlk, hR⟩ := C
  intro H locs ls hP hD hS hl
  exact lv_icmp_gt hx hb hd ht (fun c => kt ((xi_lt hg.2 hg.1).mp c) H locs ls hP hD hS hl) (fun c => kf (fun c2 => c ((xi_lt hg.2 hg.1).mpr c2)) H locs ls hP hD hS hl)

theorem xj_icmp_le {l : Launch} {D : va_G} {k : Nat → ClassId} {o : xO} {X : xX} {cc : ByteArray} {nL : Nat} {own : String} {Ts : List Cond} {ret : Option FieldType} {rm : Room} (C : xC D k X cc nL own Ts ret rm) {pc : Nat} {L : List (Nat × Value)} {st : List Value} {ws : va_W} {off : Int} {tgt : Nat} {x y : Int} (hd : decode cc pc = .ok (.if_icmp .le off, 3)) (ht : (pc : Int) + off = (tgt : Int)) (hg : xr x ∧ xr y) (kt : x ≤ y → xJ l D k o X nL tgt L st ws) (kf : ¬ x ≤ y → xJ l D k o X nL (pc + 3) L st ws) : xJ l D k o X nL pc L (.int (xi y) :: .int (xi x) :: st) ws := by
  obtain ⟨p, e, R, s, m, args, below, meth, c, A⟩ := X
  obtain ⟨⟨hx, hb, hml, hown, hts⟩, hK, hA, hr, hlk, hR⟩ := C
  intro H locs ls hP hD hS hl
  exact lv_icmp_le hx hb hd ht (fun c => kt ((xi_le hg.1 hg.2).mp c) H locs ls hP hD hS hl) (fun c => kf (fun c2 => c ((xi_le hg.1 hg.2).mpr c2)) H locs ls hP hD hS hl)

theorem xj_icmp_eq {l : Launch} {D : va_G} {k : Nat → ClassId} {o : xO} {X : xX} {cc : ByteArray} {nL : Nat} {own : String} {Ts : List Cond} {ret : Option FieldType} {rm : Room} (C : xC D k X cc nL own Ts ret rm) {pc : Nat} {L : List (Nat × Value)} {st : List Value} {ws : va_W} {off : Int} {tgt : Nat} {x y : Int} (hd : decode cc pc = .ok (.if_icmp .eq off, 3)) (ht : (pc : Int) + off = (tgt : Int)) (hg : xr x ∧ xr y) (kt : x = y → xJ l D k o X nL tgt L st ws) (kf : ¬ x = y → xJ l D k o X nL (pc + 3) L st ws) : xJ l D k o X nL pc L (.int (xi y) :: .int (xi x) :: st) ws := by
  obtain ⟨p, e, R, s, m, args, below, meth, c, A⟩ := X
  obtain ⟨⟨hx, hb, hml, hown, hts⟩, hK, hA, hr, hlk, hR⟩ := C
  intro H locs ls hP hD hS hl
  exact lv_icmp_eq hx hb hd ht (fun c => kt ((xi_eq hg.1 hg.2).mp c) H locs ls hP hD hS hl) (fun c => kf (fun c2 => c ((xi_eq hg.1 hg.2).mpr c2)) H locs ls hP hD hS hl)

theorem xj_icmp_ne {l : Launch} {D : va_G} {k : Nat → ClassId} {o : xO} {X : xX} {cc : ByteArray} {nL : Nat} {own : String} {Ts : List Cond} {ret : Option FieldType} {rm : Room} (C : xC D k X cc nL own Ts ret rm) {pc : Nat} {L : List (Nat × Value)} {st : List Value} {ws : va_W} {off : Int} {tgt : Nat} {x y : Int} (hd : decode cc pc = .ok (.if_icmp .ne off, 3)) (ht : (pc : Int) + off = (tgt : Int)) (hg : xr x ∧ xr y) (kt : ¬ x = y → xJ l D k o X nL tgt L st ws) (kf : x = y → xJ l D k o X nL (pc + 3) L st ws) : xJ l D k o X nL pc L (.int (xi y) :: .int (xi x) :: st) ws := by
  obtain ⟨p, e, R, s, m, args, below, meth, c, A⟩ := X
  obtain ⟨⟨hx, hb, hml, hown, hts⟩, hK, hA, hr, hlk, hR⟩ := C
  intro H locs ls hP hD hS hl
  exact lv_icmp_ne hx hb hd ht (fun c => kt (fun c2 => c ((xi_eq hg.1 hg.2).mpr c2)) H locs ls hP hD hS hl) (fun c => kf ((xi_eq hg.1 hg.2).mp c) H locs ls hP hD hS hl)

theorem xr_0 : xr 0 := by decide
theorem xj_if_lt {l : Launch} {D : va_G} {k : Nat → ClassId} {o : xO} {X : xX} {cc : ByteArray} {nL : Nat} {own : String} {Ts : List Cond} {ret : Option FieldType} {rm : Room} (C : xC D k X cc nL own Ts ret rm) {pc : Nat} {L : List (Nat × Value)} {st : List Value} {ws : va_W} {off : Int} {tgt : Nat} {x : Int} (hd : decode cc pc = .ok (.ifCond .lt off, 3)) (ht : (pc : Int) + off = (tgt : Int)) (hg : xr x) (kt : x < 0 → xJ l D k o X nL tgt L st ws) (kf : ¬ x < 0 → xJ l D k o X nL (pc + 3) L st ws) : xJ l D k o X nL pc L (.int (xi x) :: st) ws := by
  obtain ⟨p, e, R, s, m, args, below, meth, c, A⟩ := X
  obtain ⟨⟨hx, hb, hml, hown, hts⟩, hK, hA, hr, hlk, hR⟩ := C
  intro H locs ls hP hD hS hl
  exact lv_if_lt hx hb hd ht (fun c => kt ((xi_lt hg xr_0).mp c) H locs ls hP hD hS hl) (fun c => kf (fun c2 => c ((xi_lt hg xr_0).mpr c2)) H locs ls hP hD hS hl)

theorem xj_if_ge {l : Launch} {D : va_G} {k : Nat → ClassId} {o : xO} {X : xX} {cc : ByteArray} {nL : Nat} {own : String} {Ts : List Cond} {ret : Option FieldType} {rm : Room} (C : xC D k X cc nL own Ts ret rm) {pc : Nat} {L : List (Nat × Value)} {st : List Value} {ws : va_W} {off : Int} {tgt : Nat} {x : Int} (hd : decode cc pc = .ok (.ifCond .ge off, 3)) (ht : (pc : Int) + off = (tgt : Int)) (hg : xr x) (kt : 0 ≤ x → xJ l D k o X nL tgt L st ws) (kf : ¬ 0 ≤ x → xJ l D k o X nL (pc + 3) L st ws) : xJ l D k o X nL pc L (.int (xi x) :: st) ws := by
  obtain ⟨p, e, R, s, m, args, below, meth, c, A⟩ := X
  obtain ⟨⟨hx, hb, hml, hown, hts⟩, hK, hA, hr, hlk, hR⟩ := C
  intro H locs ls hP hD hS hl
  exact lv_if_ge hx hb hd ht (fun c => kt ((xi_le xr_0 hg).mp c) H locs ls hP hD hS hl) (fun c => kf (fun c2 => c ((xi_le xr_0 hg).mpr c2)) H locs ls hP hD hS hl)

theorem xj_if_gt {l : Launch} {D : va_G} {k : Nat → ClassId} {o : xO} {X : xX} {cc : ByteArray} {nL : Nat} {own : String} {Ts : List Cond} {ret : Option FieldType} {rm : Room} (C : xC D k X cc nL own Ts ret rm) {pc : Nat} {L : List (Nat × Value)} {st : List Value} {ws : va_W} {off : Int} {tgt : Nat} {x : Int} (hd : decode cc pc = .ok (.ifCond .gt off, 3)) (ht : (pc : Int) + off = (tgt : Int)) (hg : xr x) (kt : 0 < x → xJ l D k o X nL tgt L st ws) (kf : ¬ 0 < x → xJ l D k o X nL (pc + 3) L st ws) : xJ l D k o X nL pc L (.int (xi x) :: st) ws := by
  obtain ⟨p, e, R, s, m, args, below, meth, c, A⟩ := X
  obtain ⟨⟨hx, hb, hml, hown, hts⟩, hK, hA, hr, hlk, hR⟩ := C
  intro H locs ls hP hD hS hl
  exact lv_if_gt hx hb hd ht (fun c => kt ((xi_lt xr_0 hg).mp c) H locs ls hP hD hS hl) (fun c => kf (fun c2 => c ((xi_lt xr_0 hg).mpr c2)) H locs ls hP hD hS hl)

theorem xj_if_le {l : Launch} {D : va_G} {k : Nat → ClassId} {o : xO} {X : xX} {cc : ByteArray} {nL : Nat} {own : String} {Ts : List Cond} {ret : Option FieldType} {rm : Room} (C : xC D k X cc nL own Ts ret rm) {pc : Nat} {L : List (Nat × Value)} {st : List Value} {ws : va_W} {off : Int} {tgt : Nat} {x : Int} (hd : decode cc pc = .ok (.ifCond .le off, 3)) (ht : (pc : Int) + off = (tgt : Int)) (hg : xr x) (kt : x ≤ 0 → xJ l D k o X nL tgt L st ws) (kf : ¬ x ≤ 0 → xJ l D k o X nL (pc + 3) L st ws) : xJ l D k o X nL pc L (.int (xi x) :: st) ws := by
  obtain ⟨p, e, R, s, m, args, below, meth, c, A⟩ := X
  obtain ⟨⟨hx, hb, hml, hown, hts⟩, hK, hA, hr, hlk, hR⟩ := C
  intro H locs ls hP hD hS hl
  exact lv_if_le hx hb hd ht (fun c => kt ((xi_le hg xr_0).mp c) H locs ls hP hD hS hl) (fun c => kf (fun c2 => c ((xi_le hg xr_0).mpr c2)) H locs ls hP hD hS hl)

theorem xj_if_eq {l : Launch} {D : va_G} {k : Nat → ClassId} {o : xO} {X : xX} {cc : ByteArray} {nL : Nat} {own : String} {Ts : List Cond} {ret : Option FieldType} {rm : Room} (C : xC D k X cc nL own Ts ret rm) {pc : Nat} {L : List (Nat × Value)} {st : List Value} {ws : va_W} {off : Int} {tgt : Nat} {x : Int} (hd : decode cc pc = .ok (.ifCond .eq off, 3)) (ht : (pc : Int) + off = (tgt : Int)) (hg : xr x) (kt : x = 0 → xJ l D k o X nL tgt L st ws) (kf : ¬ x = 0 → xJ l D k o X nL (pc + 3) L st ws) : xJ l D k o X nL pc L (.int (xi x) :: st) ws := by
  obtain ⟨p, e, R, s, m, args, below, meth, c, A⟩ := X
  obtain ⟨⟨hx, hb, hml, hown, hts⟩, hK, hA, hr, hlk, hR⟩ := C
  intro H locs ls hP hD hS hl
  exact lv_if_eq hx hb hd ht (fun c => kt ((xi_eq hg xr_0).mp c) H locs ls hP hD hS hl) (fun c => kf (fun c2 => c ((xi_eq hg xr_0).mpr c2)) H locs ls hP hD hS hl)

theorem xj_if_ne {l : Launch} {D : va_G} {k : Nat → ClassId} {o : xO} {X : xX} {cc : ByteArray} {nL : Nat} {own : String} {Ts : List Cond} {ret : Option FieldType} {rm : Room} (C : xC D k X cc nL own Ts ret rm) {pc : Nat} {L : List (Nat × Value)} {st : List Value} {ws : va_W} {off : Int} {tgt : Nat} {x : Int} (hd : decode cc pc = .ok (.ifCond .ne off, 3)) (ht : (pc : Int) + off = (tgt : Int)) (hg : xr x) (kt : ¬ x = 0 → xJ l D k o X nL tgt L st ws) (kf : x = 0 → xJ l D k o X nL (pc + 3) L st ws) : xJ l D k o X nL pc L (.int (xi x) :: st) ws := by
  obtain ⟨p, e, R, s, m, args, below, meth, c, A⟩ := X
  obtain ⟨⟨hx, hb, hml, hown, hts⟩, hK, hA, hr, hlk, hR⟩ := C
  intro H locs ls hP hD hS hl
  exact lv_if_ne hx hb hd ht (fun c => kt (fun c2 => c ((xi_eq hg xr_0).mpr c2)) H locs ls hP hD hS hl) (fun c => kf ((xi_eq hg xr_0).mp c) H locs ls hP hD hS hl)

theorem xj_goto {l : Launch} {D : va_G} {k : Nat → ClassId} {o : xO} {X : xX} {cc : ByteArray} {nL : Nat} {own : String} {Ts : List Cond} {ret : Option FieldType} {rm : Room} (C : xC D k X cc nL own Ts ret rm) {pc : Nat} {L : List (Nat × Value)} {st : List Value} {ws : va_W} {off : Int} {tgt : Nat} (hd : decode cc pc = .ok (.goto off, 3)) (ht : (pc : Int) + off = (tgt : Int)) (kk : xJ l D k o X nL tgt L st ws) : xJ l D k o X nL pc L st ws := by
  obtain ⟨p, e, R, s, m, args, below, meth, c, A⟩ := X
  obtain ⟨⟨hx, hb, hml, hown, hts⟩, hK, hA, hr, hlk, hR⟩ := C
  intro H locs ls hP hD hS hl
  exact lv_goto hx hb hd ht (kk H locs ls hP hD hS hl)

theorem xj_iald {l : Launch} {D : va_G} {k : Nat → ClassId} {o : xO} {X : xX} {cc : ByteArray} {nL : Nat} {own : String} {Ts : List Cond} {ret : Option FieldType} {rm : Room} (C : xC D k X cc nL own Ts ret rm) {pc : Nat} {L : List (Nat × Value)} {st : List Value} {ws : va_W} (q0 : Nat) {a n : Nat} (S : Nat → Int → Int) (q : Nat) (ha : ws[q0]? = some (a, .inl (k 0, n, .inl (fun j => xi (S q (j : Int)))))) (hn : n < 2147483648) {i : Int} (hg : 0 ≤ i ∧ i < (n : Int)) (hd : decode cc pc = .ok (.iaload, 1)) (kk : xJ l D k o X nL (pc + 1) L (.int (xi (S q i)) :: st) ws) : xJ l D k o X nL pc L (.int (xi i) :: .ref a :: st) ws := by
  obtain ⟨p, e, R, s, m, args, below, meth, c, A⟩ := X
  obtain ⟨⟨hx, hb, hml, hown, hts⟩, hK, hA, hr, hlk, hR⟩ := C
  intro H locs ls hP hD hS hl
  refine va_iald hx hb hK hP q0 0 ha rfl (xi_in hg hn) hd ?_
  rw [xi_cl ⟨hg.1, by omega⟩, Int.toNat_of_nonneg hg.1]
  exact kk H locs ls hP hD hS hl

theorem xj_zald {l : Launch} {D : va_G} {k : Nat → ClassId} {o : xO} {X : xX} {cc : ByteArray} {nL : Nat} {own : String} {Ts : List Cond} {ret : Option FieldType} {rm : Room} (C : xC D k X cc nL own Ts ret rm) {pc : Nat} {L : List (Nat × Value)} {st : List Value} {ws : va_W} (q0 : Nat) {a n : Nat} (S : Nat → Int → Int) (q : Nat) (ha : ws[q0]? = some (a, .inl (k 1, n, .inl (fun j => xi (S q (j : Int)))))) (hn : n < 2147483648) {i : Int} (hg : 0 ≤ i ∧ i < (n : Int)) (hd : decode cc pc = .ok (.baload, 1)) (kk : xJ l D k o X nL (pc + 1) L (.int (xi (S q i)) :: st) ws) : xJ l D k o X nL pc L (.int (xi i) :: .ref a :: st) ws := by
  obtain ⟨p, e, R, s, m, args, below, meth, c, A⟩ := X
  obtain ⟨⟨hx, hb, hml, hown, hts⟩, hK, hA, hr, hlk, hR⟩ := C
  intro H locs ls hP hD hS hl
  refine va_zald hx hb hK hP q0 1 ha rfl (xi_in hg hn) hd ?_
  rw [xi_cl ⟨hg.1, by omega⟩, Int.toNat_of_nonneg hg.1]
  exact kk H locs ls hP hD hS hl

theorem xj_lald {l : Launch} {D : va_G} {k : Nat → ClassId} {o : xO} {X : xX} {cc : ByteArray} {nL : Nat} {own : String} {Ts : List Cond} {ret : Option FieldType} {rm : Room} (C : xC D k X cc nL own Ts ret rm) {pc : Nat} {L : List (Nat × Value)} {st : List Value} {ws : va_W} (q0 : Nat) {a n : Nat} (S : Nat → Int → Int) (q : Nat) (ha : ws[q0]? = some (a, .inl (k 2, n, .inr (.inl (fun j => Int64.ofInt (S q (j : Int))))))) (hn : n < 2147483648) {i : Int} (hg : 0 ≤ i ∧ i < (n : Int)) (hd : decode cc pc = .ok (.laload, 1)) (kk : xJ l D k o X nL (pc + 1) L (.long (Int64.ofInt (S q i)) :: st) ws) : xJ l D k o X nL pc L (.int (xi i) :: .ref a :: st) ws := by
  obtain ⟨p, e, R, s, m, args, below, meth, c, A⟩ := X
  obtain ⟨⟨hx, hb, hml, hown, hts⟩, hK, hA, hr, hlk, hR⟩ := C
  intro H locs ls hP hD hS hl
  refine va_lald hx hb hK hP q0 2 ha rfl (xi_in hg hn) hd ?_
  rw [xi_cl ⟨hg.1, by omega⟩, Int.toNat_of_nonneg hg.1]
  exact kk H locs ls hP hD hS hl

theorem xj_dald {l : Launch} {D : va_G} {k : Nat → ClassId} {o : xO} {X : xX} {cc : ByteArray} {nL : Nat} {own : String} {Ts : List Cond} {ret : Option FieldType} {rm : Room} (C : xC D k X cc nL own Ts ret rm) {pc : Nat} {L : List (Nat × Value)} {st : List Value} {ws : va_W} (q0 : Nat) {a n : Nat} (S : Nat → Int → Int) (q : Nat) (ha : ws[q0]? = some (a, .inl (k 3, n, .inr (.inr (.inr (.inl (fun j => UInt64.ofNat (S q (j : Int)).toNat))))))) (hn : n < 2147483648) {i : Int} (hg : 0 ≤ i ∧ i < (n : Int)) (hd : decode cc pc = .ok (.daload, 1)) (kk : xJ l D k o X nL (pc + 1) L (.double (UInt64.ofNat (S q i).toNat) :: st) ws) : xJ l D k o X nL pc L (.int (xi i) :: .ref a :: st) ws := by
  obtain ⟨p, e, R, s, m, args, below, meth, c, A⟩ := X
  obtain ⟨⟨hx, hb, hml, hown, hts⟩, hK, hA, hr, hlk, hR⟩ := C
  intro H locs ls hP hD hS hl
  refine va_dald hx hb hK hP q0 3 ha rfl (xi_in hg hn) hd ?_
  rw [xi_cl ⟨hg.1, by omega⟩, Int.toNat_of_nonneg hg.1]
  exact kk H locs ls hP hD hS hl

theorem xu_i (S : Nat → Int → Int) (q : Nat) {i : Int} (v : Int) (h : 0 ≤ i) : upd (fun j : Nat => xi (S q (j : Int))) i.toNat (xi v) = fun j : Nat => xi (xup S q i v q (j : Int)) := by
  funext j
  by_cases hj : j = i.toNat
  · subst hj
    rw [show ((i.toNat : Nat) : Int) = i by omega, xup_s]
    exact if_pos rfl
  · rw [xup_i S q v (by omega : (j : Int) ≠ i)]
    exact if_neg hj
theorem xu_l (S : Nat → Int → Int) (q : Nat) {i : Int} (v : Int64) (h : 0 ≤ i) : vp_updL (fun j : Nat => Int64.ofInt (S q (j : Int))) i.toNat v = fun j : Nat => Int64.ofInt (xup S q i v.toInt q (j : Int)) := by
  funext j
  by_cases hj : j = i.toNat
  · subst hj
    rw [show ((i.toNat : Nat) : Int) = i by omega, xup_s, Int64.ofInt_toInt]
    exact if_pos rfl
  · rw [xup_i S q _ (by omega : (j : Int) ≠ i)]
    exact if_neg hj
theorem xu_d (S : Nat → Int → Int) (q : Nat) {i : Int} (v : UInt64) (h : 0 ≤ i) : vf_upd (fun j : Nat => UInt64.ofNat (S q (j : Int)).toNat) i.toNat v = fun j : Nat => UInt64.ofNat (xup S q i (v.toNat : Int) q (j : Int)).toNat := by
  funext j
  by_cases hj : j = i.toNat
  · subst hj
    rw [show ((i.toNat : Nat) : Int) = i by omega, xup_s, Int.toNat_natCast, UInt64.ofNat_toNat]
    exact if_pos rfl
  · rw [xup_i S q _ (by omega : (j : Int) ≠ i)]
    exact if_neg hj
theorem xu_z {v : Int} (h : v = 0 ∨ v = 1) : vp_nar .boolean (xi v) = xi v := by
  rcases h with rfl | rfl <;> decide
theorem xj_iast {l : Launch} {D : va_G} {k : Nat → ClassId} {o : xO} {X : xX} {cc : ByteArray} {nL : Nat} {own : String} {Ts : List Cond} {ret : Option FieldType} {rm : Room} (C : xC D k X cc nL own Ts ret rm) {pc : Nat} {L : List (Nat × Value)} {st : List Value} {ws : va_W} (q0 : Nat) {a n : Nat} (S : Nat → Int → Int) (q : Nat) {ws1 : va_W} (ha : ws[q0]? = some (a, .inl (k 0, n, .inl (fun j => xi (S q (j : Int)))))) (hn : n < 2147483648) {i : Int} {v : Int} (hg : 0 ≤ i ∧ i < (n : Int)) (hw : ws.set q0 (a, .inl (k 0, n, .inl (fun j => xi (xup S q i v q (j : Int))))) = ws1) (hd : decode cc pc = .ok (.iastore, 1)) (kk : xJ l D k o X nL (pc + 1) L st ws1) : xJ l D k o X nL pc L (.int (xi v) :: .int (xi i) :: .ref a :: st) ws := by
  obtain ⟨p, e, R, s, m, args, below, meth, c, A⟩ := X
  obtain ⟨⟨hx, hb, hml, hown, hts⟩, hK, hA, hr, hlk, hR⟩ := C
  intro H locs ls hP hD hS hl
  refine va_iast hx hb hK hP hD hS q0 0 ha rfl (xi_in hg hn) hd ?_
  rw [xi_cl ⟨hg.1, by omega⟩, xu_i S q v hg.1, hw]
  exact fun H1 locs1 hP1 hD1 hS1 => kk H1 locs1 ls hP1 hD1 hS1 hl

theorem xj_zast {l : Launch} {D : va_G} {k : Nat → ClassId} {o : xO} {X : xX} {cc : ByteArray} {nL : Nat} {own : String} {Ts : List Cond} {ret : Option FieldType} {rm : Room} (C : xC D k X cc nL own Ts ret rm) {pc : Nat} {L : List (Nat × Value)} {st : List Value} {ws : va_W} (q0 : Nat) {a n : Nat} (S : Nat → Int → Int) (q : Nat) {ws1 : va_W} (ha : ws[q0]? = some (a, .inl (k 1, n, .inl (fun j => xi (S q (j : Int)))))) (hn : n < 2147483648) {i : Int} {v : Int} (hz : v = 0 ∨ v = 1) (hg : 0 ≤ i ∧ i < (n : Int)) (hw : ws.set q0 (a, .inl (k 1, n, .inl (fun j => xi (xup S q i v q (j : Int))))) = ws1) (hd : decode cc pc = .ok (.bastore, 1)) (kk : xJ l D k o X nL (pc + 1) L st ws1) : xJ l D k o X nL pc L (.int (xi v) :: .int (xi i) :: .ref a :: st) ws := by
  obtain ⟨p, e, R, s, m, args, below, meth, c, A⟩ := X
  obtain ⟨⟨hx, hb, hml, hown, hts⟩, hK, hA, hr, hlk, hR⟩ := C
  intro H locs ls hP hD hS hl
  refine va_zast hx hb hK hP hD hS q0 1 ha rfl (xi_in hg hn) hd ?_
  rw [xi_cl ⟨hg.1, by omega⟩, xu_z hz, xu_i S q v hg.1, hw]
  exact fun H1 locs1 hP1 hD1 hS1 => kk H1 locs1 ls hP1 hD1 hS1 hl

theorem xj_last {l : Launch} {D : va_G} {k : Nat → ClassId} {o : xO} {X : xX} {cc : ByteArray} {nL : Nat} {own : String} {Ts : List Cond} {ret : Option FieldType} {rm : Room} (C : xC D k X cc nL own Ts ret rm) {pc : Nat} {L : List (Nat × Value)} {st : List Value} {ws : va_W} (q0 : Nat) {a n : Nat} (S : Nat → Int → Int) (q : Nat) {ws1 : va_W} (ha : ws[q0]? = some (a, .inl (k 2, n, .inr (.inl (fun j => Int64.ofInt (S q (j : Int))))))) (hn : n < 2147483648) {i : Int} {v : Int64} (hg : 0 ≤ i ∧ i < (n : Int)) (hw : ws.set q0 (a, .inl (k 2, n, .inr (.inl (fun j => Int64.ofInt (xup S q i v.toInt q (j : Int)))))) = ws1) (hd : decode cc pc = .ok (.lastore, 1)) (kk : xJ l D k o X nL (pc + 1) L st ws1) : xJ l D k o X nL pc L (.long v :: .int (xi i) :: .ref a :: st) ws := by
  obtain ⟨p, e, R, s, m, args, below, meth, c, A⟩ := X
  obtain ⟨⟨hx, hb, hml, hown, hts⟩, hK, hA, hr, hlk, hR⟩ := C
  intro H locs ls hP hD hS hl
  refine va_last hx hb hK hP hD hS q0 2 ha rfl (xi_in hg hn) hd ?_
  rw [xi_cl ⟨hg.1, by omega⟩, xu_l S q v hg.1, hw]
  exact fun H1 locs1 hP1 hD1 hS1 => kk H1 locs1 ls hP1 hD1 hS1 hl

theorem xj_dast {l : Launch} {D : va_G} {k : Nat → ClassId} {o : xO} {X : xX} {cc : ByteArray} {nL : Nat} {own : String} {Ts : List Cond} {ret : Option FieldType} {rm : Room} (C : xC D k X cc nL own Ts ret rm) {pc : Nat} {L : List (Nat × Value)} {st : List Value} {ws : va_W} (q0 : Nat) {a n : Nat} (S : Nat → Int → Int) (q : Nat) {ws1 : va_W} (ha : ws[q0]? = some (a, .inl (k 3, n, .inr (.inr (.inr (.inl (fun j => UInt64.ofNat (S q (j : Int)).toNat))))))) (hn : n < 2147483648) {i : Int} {v : UInt64} (hg : 0 ≤ i ∧ i < (n : Int)) (hw : ws.set q0 (a, .inl (k 3, n, .inr (.inr (.inr (.inl (fun j => UInt64.ofNat (xup S q i (v.toNat : Int) q (j : Int)).toNat)))))) = ws1) (hd : decode cc pc = .ok (.dastore, 1)) (kk : xJ l D k o X nL (pc + 1) L st ws1) : xJ l D k o X nL pc L (.double v :: .int (xi i) :: .ref a :: st) ws := by
  obtain ⟨p, e, R, s, m, args, below, meth, c, A⟩ := X
  obtain ⟨⟨hx, hb, hml, hown, hts⟩, hK, hA, hr, hlk, hR⟩ := C
  intro H locs ls hP hD hS hl
  refine va_dast hx hb hK hP hD hS q0 3 ha rfl (xi_in hg hn) hd ?_
  rw [xi_cl ⟨hg.1, by omega⟩, xu_d S q v hg.1, hw]
  exact fun H1 locs1 hP1 hD1 hS1 => kk H1 locs1 ls hP1 hD1 hS1 hl

theorem xj_get {l : Launch} {D : va_G} {k : Nat → ClassId} {o : xO} {X : xX} {cc : ByteArray} {nL : Nat} {own : String} {Ts : List Cond} {ret : Option FieldType} {rm : Room} (C : xC D k X cc nL own Ts ret rm) {pc : Nat} {L : List (Nat × Value)} {st : List Value} {ws : va_W} {Cn : String} {T : u_T} {N ci index a : Nat} (hin : ∀ w ∈ u_ws Cn T N, w ∈ Ts) (q0 : Nat) {fs : List Value} (he : ws[q0]? = some (a, .inr (ci, fs))) (hc : vwCl[ci]? = some (Cn, T, N)) (f : Nat) (hf : f < N) (hlink : (Cond.fieldLink own index Cn (T f).2.1 (T f).2.2.1) ∈ Ts) (hsm : ∀ s : State, ∀ x, s.fieldFound? (T f).1 (T f).2.1 (T f).2.2.1 = some x → s.fieldFound? Cn (T f).2.1 (T f).2.2.1 = some x) {v : Value} (hv : fs[f]? = some v) (hd : decode cc pc = .ok (.getfield index, 3)) (kk : xJ l D k o X nL (pc + 3) L (v :: st) ws) : xJ l D k o X nL pc L (.ref a :: st) ws := by
  obtain ⟨p, e, R, s, m, args, below, meth, c, A⟩ := X
  obtain ⟨⟨hx, hb, hml, hown, hts⟩, hK, hA, hr, hlk, hR⟩ := C
  intro H locs ls hP hD hS hl
  have hsame : ∀ x, s.fieldFound? (T f).1 (T f).2.1 (T f).2.2.1 = some x → s.fieldFound? Cn (T f).2.1 (T f).2.2.1 = some x := hsm s
  exact va_get hx hb hts hin hown hK hP q0 he hc f hf (hts _ hlink) hsame hv hd (kk H locs ls hP hD hS hl)

theorem xj_put {l : Launch} {D : va_G} {k : Nat → ClassId} {o : xO} {X : xX} {cc : ByteArray} {nL : Nat} {own : String} {Ts : List Cond} {ret : Option FieldType} {rm : Room} (C : xC D k X cc nL own Ts ret rm) {pc : Nat} {L : List (Nat × Value)} {st : List Value} {ws : va_W} {Cn : String} {T : u_T} {N ci index a : Nat} {ws1 : va_W} (hin : ∀ w ∈ u_ws Cn T N, w ∈ Ts) (ty0 : Nat → FieldType) (hty : ∀ k, k < N → parseFieldDescriptor (T k).2.2.1 = some (ty0 k)) (hnm : ∀ a, a < N → ∀ b, b < N → a ≠ b → (T a).2.1 ≠ (T b).2.1) (q0 : Nat) {fs : List Value} (he : ws[q0]? = some (a, .inr (ci, fs))) (hc : vwCl[ci]? = some (Cn, T, N)) (f : Nat) (hf : f < N) (hlink : (Cond.fieldLink own index Cn (T f).2.1 (T f).2.2.1) ∈ Ts) (hsm : ∀ s : State, ∀ x, s.fieldFound? (T f).1 (T f).2.1 (T f).2.2.1 = some x → s.fieldFound? Cn (T f).2.1 (T f).2.2.1 = some x) (hfin : (T f).2.2.2 = false) {v : Int} (hdd : parseFieldDescriptor (T f).2.2.1 = some .int) (hl1 : f < fs.length) (hw : ws.set q0 (a, .inr (ci, fs.set f (.int (xi v)))) = ws1) (hd : decode cc pc = .ok (.putfield index, 3)) (kk : xJ l D k o X nL (pc + 3) L st ws1) : xJ l D k o X nL pc L (.int (xi v) :: .ref a :: st) ws := by
  obtain ⟨p, e, R, s, m, args, below, meth, c, A⟩ := X
  obtain ⟨⟨hx, hb, hml, hown, hts⟩, hK, hA, hr, hlk, hR⟩ := C
  intro H locs ls hP hD hS hl
  subst hw
  exact va_put hx hb hts hin ty0 hty hnm hown hK hP hD hS q0 he hc f hf (hts _ hlink) (hsm s) hfin hdd rfl rfl hl1 hd (fun H1 locs1 hP1 hD1 hS1 => kk H1 locs1 ls hP1 hD1 hS1 hl)

def xb_min (x y : Int) : Int := if y < x then y else x
theorem xj_mmin {l : Launch} {D : va_G} {k : Nat → ClassId} {o : xO} {X : xX} {cc : ByteArray} {nL : Nat} {own : String} {Ts : List Cond} {ret : Option FieldType} {rm : Room} (C : xC D k X cc nL own Ts ret rm) {pc : Nat} {L : List (Nat × Value)} {st : List Value} {ws : va_W} {x y : Int} {index : Nat} (hg : xr x ∧ xr y) (hlink : Cond.methodLink own index Lib.Math.min.name ∈ Ts) (hstat : Cond.static Lib.Math.min.name ∈ Ts) (hini : Cond.initialized "java/lang/Math" ∈ Ts) (hcode : Cond.code Lib.Math.min.name Lib.Math.min.code 2 (some .int) ∈ Ts) (hf : 1 ≤ rm.frames) (hlo : (st.map fun v => v.category).sum + 13 ≤ rm.locals) (hd : decode cc pc = .ok (.invokestatic index, 3)) (kk : xJ l D k o X nL (pc + 3) L (.int (xi (xb_min x y)) :: st) ws) : xJ l D k o X nL pc L (.int (xi y) :: .int (xi x) :: st) ws := by
  obtain ⟨p, e, R, s, m, args, below, meth, c, A⟩ := X
  obtain ⟨⟨hx, hb, hml, hown, hts⟩, hK, hA, hr, hlk, hR⟩ := C
  intro H locs ls hP hD hS hl
  refine va_mmin hx hb (hml.trans hl.1.symm) hown (hts _ hlink) (hts _ hstat) (hts _ hini) (hts _ hcode) (by rw [hR]; exact hf) (by rw [hR]; exact hlo) (Nat.zero_le _) (Nat.zero_le _) hd ?_
  have e : (if xi y < xi x then xi y else xi x) = xi (xb_min x y) := by
    unfold xb_min
    by_cases h : y < x
    · rw [if_pos h, if_pos ((xi_lt hg.2 hg.1).mpr h)]
    · rw [if_neg h, if_neg (fun h2 => h ((xi_lt hg.2 hg.1).mp h2))]
  rw [e]
  exact kk H locs ls hP hD hS hl

def xb_max (x y : Int) : Int := if x < y then y else x
theorem xj_mmax {l : Launch} {D : va_G} {k : Nat → ClassId} {o : xO} {X : xX} {cc : ByteArray} {nL : Nat} {own : String} {Ts : List Cond} {ret : Option FieldType} {rm : Room} (C : xC D k X cc nL own Ts ret rm) {pc : Nat} {L : List (Nat × Value)} {st : List Value} {ws : va_W} {x y : Int} {index : Nat} (hg : xr x ∧ xr y) (hlink : Cond.methodLink own index Lib.Math.max.name ∈ Ts) (hstat : Cond.static Lib.Math.max.name ∈ Ts) (hini : Cond.initialized "java/lang/Math" ∈ Ts) (hcode : Cond.code Lib.Math.max.name Lib.Math.max.code 2 (some .int) ∈ Ts) (hf : 1 ≤ rm.frames) (hlo : (st.map fun v => v.category).sum + 13 ≤ rm.locals) (hd : decode cc pc = .ok (.invokestatic index, 3)) (kk : xJ l D k o X nL (pc + 3) L (.int (xi (xb_max x y)) :: st) ws) : xJ l D k o X nL pc L (.int (xi y) :: .int (xi x) :: st) ws := by
  obtain ⟨p, e, R, s, m, args, below, meth, c, A⟩ := X
  obtain ⟨⟨hx, hb, hml, hown, hts⟩, hK, hA, hr, hlk, hR⟩ := C
  intro H locs ls hP hD hS hl
  refine va_mmax hx hb (hml.trans hl.1.symm) hown (hts _ hlink) (hts _ hstat) (hts _ hini) (hts _ hcode) (by rw [hR]; exact hf) (by rw [hR]; exact hlo) (Nat.zero_le _) (Nat.zero_le _) hd ?_
  have e : (if xi x < xi y then xi y else xi x) = xi (xb_max x y) := by
    unfold xb_max
    by_cases h : x < y
    · rw [if_pos h, if_pos ((xi_lt hg.1 hg.2).mpr h)]
    · rw [if_neg h, if_neg (fun h2 => h ((xi_lt hg.1 hg.2).mp h2))]
  rw [e]
  exact kk H locs ls hP hD hS hl

theorem xj_iret {l : Launch} {D : va_G} {k : Nat → ClassId} {v0 : Option Value} {wf : va_W} {X : xX} {cc : ByteArray} {nL : Nat} {own : String} {Ts : List Cond} {rt : Option FieldType} {rm : Room} (C : xC D k X cc nL own Ts rt rm) {pc : Nat} {L : List (Nat × Value)} {v : Int} (hrt : rt = some .int) (hd : decode cc pc = .ok (.ireturn, 1)) : xJ l D k (some (.int (xi v)), wf) X nL pc L [.int (xi v)] wf := by
  obtain ⟨p, e, R, s, m, args, below, meth, c, A⟩ := X
  obtain ⟨⟨hx, hb, hml, hown, hts⟩, hK, hA, hr, hlk, hR⟩ := C
  intro H locs ls hP hD hS hl
  subst hrt
  exact W.iret hx hb hr (fun t ht hW => ⟨⟨rfl, by rw [ht]; exact hP, va_K.moved hW.alike hK, hD⟩, hS.F ht⟩) hS.2.2 hd hlk

theorem xj_zret {l : Launch} {D : va_G} {k : Nat → ClassId} {v0 : Option Value} {wf : va_W} {X : xX} {cc : ByteArray} {nL : Nat} {own : String} {Ts : List Cond} {rt : Option FieldType} {rm : Room} (C : xC D k X cc nL own Ts rt rm) {pc : Nat} {L : List (Nat × Value)} {v : Int} (hz : v = 0 ∨ v = 1) (hrt : rt = some .boolean) (hd : decode cc pc = .ok (.ireturn, 1)) : xJ l D k (some (.int (xi v)), wf) X nL pc L [.int (xi v)] wf := by
  obtain ⟨p, e, R, s, m, args, below, meth, c, A⟩ := X
  obtain ⟨⟨hx, hb, hml, hown, hts⟩, hK, hA, hr, hlk, hR⟩ := C
  intro H locs ls hP hD hS hl
  subst hrt
  exact W.zret hx hb hr (by rcases hz with rfl | rfl <;> rfl) (fun t ht hW => ⟨⟨rfl, by rw [ht]; exact hP, va_K.moved hW.alike hK, hD⟩, hS.F ht⟩) hS.2.2 hd hlk

theorem xj_lret {l : Launch} {D : va_G} {k : Nat → ClassId} {v0 : Option Value} {wf : va_W} {X : xX} {cc : ByteArray} {nL : Nat} {own : String} {Ts : List Cond} {rt : Option FieldType} {rm : Room} (C : xC D k X cc nL own Ts rt rm) {pc : Nat} {L : List (Nat × Value)} {v : Int64} (hrt : rt = some .long) (hd : decode cc pc = .ok (.lreturn, 1)) : xJ l D k (some (.long v), wf) X nL pc L [.long v] wf := by
  obtain ⟨p, e, R, s, m, args, below, meth, c, A⟩ := X
  obtain ⟨⟨hx, hb, hml, hown, hts⟩, hK, hA, hr, hlk, hR⟩ := C
  intro H locs ls hP hD hS hl
  subst hrt
  exact W.lret hx hb hr (fun t ht hW => ⟨⟨rfl, by rw [ht]; exact hP, va_K.moved hW.alike hK, hD⟩, hS.F ht⟩) hS.2.2 hd hlk

theorem xj_dret {l : Launch} {D : va_G} {k : Nat → ClassId} {v0 : Option Value} {wf : va_W} {X : xX} {cc : ByteArray} {nL : Nat} {own : String} {Ts : List Cond} {rt : Option FieldType} {rm : Room} (C : xC D k X cc nL own Ts rt rm) {pc : Nat} {L : List (Nat × Value)} {v : UInt64} (hrt : rt = some .double) (hd : decode cc pc = .ok (.dreturn, 1)) : xJ l D k (some (.double v), wf) X nL pc L [.double v] wf := by
  obtain ⟨p, e, R, s, m, args, below, meth, c, A⟩ := X
  obtain ⟨⟨hx, hb, hml, hown, hts⟩, hK, hA, hr, hlk, hR⟩ := C
  intro H locs ls hP hD hS hl
  subst hrt
  exact W.dret hx hb hr (fun t ht hW => ⟨⟨rfl, by rw [ht]; exact hP, va_K.moved hW.alike hK, hD⟩, hS.F ht⟩) hS.2.2 hd hlk

theorem xj_vret {l : Launch} {D : va_G} {k : Nat → ClassId} {v0 : Option Value} {wf : va_W} {X : xX} {cc : ByteArray} {nL : Nat} {own : String} {Ts : List Cond} {rt : Option FieldType} {rm : Room} (C : xC D k X cc nL own Ts rt rm) {pc : Nat} {L : List (Nat × Value)}  (hrt : rt = none) (hd : decode cc pc = .ok (.return_, 1)) : xJ l D k (none, wf) X nL pc L [] wf := by
  obtain ⟨p, e, R, s, m, args, below, meth, c, A⟩ := X
  obtain ⟨⟨hx, hb, hml, hown, hts⟩, hK, hA, hr, hlk, hR⟩ := C
  intro H locs ls hP hD hS hl
  subst hrt
  exact W.vret hx hb hr (fun t ht hW => ⟨⟨rfl, by rw [ht]; exact hP, va_K.moved hW.alike hK, hD⟩, hS.F ht⟩) hS.2.2 hd hlk
end
