-- ===== PART A: goes FIRST, ahead of the names: the tables' words, and 'selects' of the private methods out of them =====
/-- a private method of a class that the tables say can be made, by its rows of tables_1 -/
def lw_okq (q : MethodName × Nat) : Prop := (q.1.cls ≠ "java/lang/invoke/MethodHandle" ∧ q.1.cls ≠ "java/lang/invoke/VarHandle") ∧ Cond.instantiable q.1.cls q.2 ∈ tables_1 ∧ Cond.privateMethod q.1 ∈ tables_1 ∧ Cond.instanceMethod q.1 ∈ tables_1
theorem tb_1 {w : Cond} (i : Nat) (h : tables_1_1[i]? = some w) : w ∈ tables_1 := List.mem_append_left _ (List.mem_of_getElem? h)
theorem tb_2 {w : Cond} (i : Nat) (h : tables_1_2[i]? = some w) : w ∈ tables_1 := List.mem_append_right _ (List.mem_append_left _ (List.mem_of_getElem? h))
theorem tb_3 {w : Cond} (i : Nat) (h : tables_1_3[i]? = some w) : w ∈ tables_1 := List.mem_append_right _ (List.mem_append_right _ (List.mem_append_left _ (List.mem_of_getElem? h)))
theorem tb_4 {w : Cond} (i : Nat) (h : tables_1_4[i]? = some w) : w ∈ tables_1 := List.mem_append_right _ (List.mem_append_right _ (List.mem_append_right _ (List.mem_append_left _ (List.mem_of_getElem? h))))
theorem tb_5 {w : Cond} (i : Nat) (h : tables_1_5[i]? = some w) : w ∈ tables_1 := List.mem_append_right _ (List.mem_append_right _ (List.mem_append_right _ (List.mem_append_right _ (List.mem_append_left _ (List.mem_of_getElem? h)))))
theorem tb_6 {w : Cond} (i : Nat) (h : tables_1_6[i]? = some w) : w ∈ tables_1 := List.mem_append_right _ (List.mem_append_right _ (List.mem_append_right _ (List.mem_append_right _ (List.mem_append_right _ (List.mem_of_getElem? h)))))
set_option maxRecDepth 10000 in
theorem lw_p0 : lw_okq (⟨"TwinLights", "found", "(I)I"⟩, 13) := ⟨⟨by decide +kernel, by decide +kernel⟩, tb_1 19 rfl, tb_2 51 rfl, tb_2 52 rfl⟩
set_option maxRecDepth 10000 in
theorem lw_p1 : lw_okq (⟨"TwinLights", "isShip", "(I)Z"⟩, 13) := ⟨⟨by decide +kernel, by decide +kernel⟩, tb_1 19 rfl, tb_2 114 rfl, tb_2 115 rfl⟩
set_option maxRecDepth 10000 in
theorem lw_p2 : lw_okq (⟨"TwinLights$Ship", "lightsNear", "()I"⟩, 7) := ⟨⟨by decide +kernel, by decide +kernel⟩, tb_1 69 rfl, tb_2 127 rfl, tb_2 128 rfl⟩
set_option maxRecDepth 10000 in
theorem lw_p3 : lw_okq (⟨"TwinLights$Ship", "move", "(I)V"⟩, 7) := ⟨⟨by decide +kernel, by decide +kernel⟩, tb_1 69 rfl, tb_2 183 rfl, tb_2 184 rfl⟩
set_option maxRecDepth 10000 in
theorem lw_p4 : lw_okq (⟨"TwinLights", "sailTick", "(LTwinLights$Ship;I)V"⟩, 13) := ⟨⟨by decide +kernel, by decide +kernel⟩, tb_1 19 rfl, tb_3 4 rfl, tb_3 5 rfl⟩
set_option maxRecDepth 10000 in
theorem lw_p5 : lw_okq (⟨"TwinLights$PatternSearch", "tryFrom", "(II)V"⟩, 5) := ⟨⟨by decide +kernel, by decide +kernel⟩, tb_1 192 rfl, tb_3 56 rfl, tb_3 57 rfl⟩
set_option maxRecDepth 10000 in
theorem lw_p6 : lw_okq (⟨"TwinLights$PatternSearch", "tryBit", "(II)V"⟩, 5) := ⟨⟨by decide +kernel, by decide +kernel⟩, tb_1 192 rfl, tb_3 61 rfl, tb_3 62 rfl⟩
set_option maxRecDepth 10000 in
theorem lw_p7 : lw_okq (⟨"TwinLights", "bestToBecome", "(IIII)I"⟩, 13) := ⟨⟨by decide +kernel, by decide +kernel⟩, tb_1 19 rfl, tb_3 76 rfl, tb_3 77 rfl⟩
set_option maxRecDepth 10000 in
theorem lw_p8 : lw_okq (⟨"TwinLights", "strandedWith", "(IIII)I"⟩, 13) := ⟨⟨by decide +kernel, by decide +kernel⟩, tb_1 19 rfl, tb_3 80 rfl, tb_3 81 rfl⟩
set_option maxRecDepth 10000 in
theorem lw_p9 : lw_okq (⟨"TwinLights", "fewestToKeep", "(II)I"⟩, 13) := ⟨⟨by decide +kernel, by decide +kernel⟩, tb_1 19 rfl, tb_3 96 rfl, tb_3 97 rfl⟩
set_option maxRecDepth 10000 in
theorem lw_p10 : lw_okq (⟨"TwinLights", "gainWithout", "(II)I"⟩, 13) := ⟨⟨by decide +kernel, by decide +kernel⟩, tb_1 19 rfl, tb_3 100 rfl, tb_3 101 rfl⟩
set_option maxRecDepth 10000 in
theorem lw_p11 : lw_okq (⟨"TwinLights", "troubleWith", "(I)I"⟩, 13) := ⟨⟨by decide +kernel, by decide +kernel⟩, tb_1 19 rfl, tb_3 108 rfl, tb_3 109 rfl⟩
set_option maxRecDepth 10000 in
theorem lw_p12 : lw_okq (⟨"TwinLights$Demand", "hearOne", "(IILTwinLights$Lights;)V"⟩, 3) := ⟨⟨by decide +kernel, by decide +kernel⟩, tb_1 175 rfl, tb_3 128 rfl, tb_3 129 rfl⟩
set_option maxRecDepth 10000 in
theorem lw_p13 : lw_okq (⟨"TwinLights", "sailsAs", "(LTwinLights$Sheet;LTwinLights$Ship;)Z"⟩, 13) := ⟨⟨by decide +kernel, by decide +kernel⟩, tb_1 19 rfl, tb_3 153 rfl, tb_3 154 rfl⟩
set_option maxRecDepth 10000 in
theorem lw_p14 : lw_okq (⟨"TwinLights$Sea", "draw", "()I"⟩, 4) := ⟨⟨by decide +kernel, by decide +kernel⟩, tb_1 27 rfl, tb_3 165 rfl, tb_3 166 rfl⟩
set_option maxRecDepth 10000 in
theorem lw_p15 : lw_okq (⟨"TwinLights$Tape", "nextToken", "()V"⟩, 6) := ⟨⟨by decide +kernel, by decide +kernel⟩, tb_1 143 rfl, tb_3 215 rfl, tb_3 216 rfl⟩
def lw_privs_1 : List (MethodName × Nat) := [(⟨"TwinLights", "found", "(I)I"⟩, 13), (⟨"TwinLights", "isShip", "(I)Z"⟩, 13), (⟨"TwinLights$Ship", "lightsNear", "()I"⟩, 7), (⟨"TwinLights$Ship", "move", "(I)V"⟩, 7), (⟨"TwinLights", "sailTick", "(LTwinLights$Ship;I)V"⟩, 13), (⟨"TwinLights$PatternSearch", "tryFrom", "(II)V"⟩, 5), (⟨"TwinLights$PatternSearch", "tryBit", "(II)V"⟩, 5), (⟨"TwinLights", "bestToBecome", "(IIII)I"⟩, 13), (⟨"TwinLights", "strandedWith", "(IIII)I"⟩, 13), (⟨"TwinLights", "fewestToKeep", "(II)I"⟩, 13), (⟨"TwinLights", "gainWithout", "(II)I"⟩, 13), (⟨"TwinLights", "troubleWith", "(I)I"⟩, 13), (⟨"TwinLights$Demand", "hearOne", "(IILTwinLights$Lights;)V"⟩, 3), (⟨"TwinLights", "sailsAs", "(LTwinLights$Sheet;LTwinLights$Ship;)Z"⟩, 13), (⟨"TwinLights$Sea", "draw", "()I"⟩, 4), (⟨"TwinLights$Tape", "nextToken", "()V"⟩, 6)]
theorem lw_r1 : ∀ q ∈ lw_privs_1, lw_okq q := List.forall_mem_cons.mpr ⟨lw_p0, List.forall_mem_cons.mpr ⟨lw_p1, List.forall_mem_cons.mpr ⟨lw_p2, List.forall_mem_cons.mpr ⟨lw_p3, List.forall_mem_cons.mpr ⟨lw_p4, List.forall_mem_cons.mpr ⟨lw_p5, List.forall_mem_cons.mpr ⟨lw_p6, List.forall_mem_cons.mpr ⟨lw_p7, List.forall_mem_cons.mpr ⟨lw_p8, List.forall_mem_cons.mpr ⟨lw_p9, List.forall_mem_cons.mpr ⟨lw_p10, List.forall_mem_cons.mpr ⟨lw_p11, List.forall_mem_cons.mpr ⟨lw_p12, List.forall_mem_cons.mpr ⟨lw_p13, List.forall_mem_cons.mpr ⟨lw_p14, List.forall_mem_cons.mpr ⟨lw_p15, fun _ h => absurd h List.not_mem_nil⟩⟩⟩⟩⟩⟩⟩⟩⟩⟩⟩⟩⟩⟩⟩⟩
set_option maxRecDepth 10000 in
theorem lw_p16 : lw_okq (⟨"TwinLights$Tape", "numberRead", "()I"⟩, 6) := ⟨⟨by decide +kernel, by decide +kernel⟩, tb_1 143 rfl, tb_3 222 rfl, tb_3 223 rfl⟩
set_option maxRecDepth 10000 in
theorem lw_p17 : lw_okq (⟨"TwinLights$Tape", "readItem", "(LTwinLights$Sea;)Z"⟩, 6) := ⟨⟨by decide +kernel, by decide +kernel⟩, tb_1 143 rfl, tb_3 227 rfl, tb_3 228 rfl⟩
set_option maxRecDepth 10000 in
theorem lw_p18 : lw_okq (⟨"TwinLights$Tape", "kindOfWord", "()I"⟩, 6) := ⟨⟨by decide +kernel, by decide +kernel⟩, tb_1 143 rfl, tb_3 231 rfl, tb_3 232 rfl⟩
set_option maxRecDepth 10000 in
theorem lw_p19 : lw_okq (⟨"TwinLights$Tape", "isWord", "(Ljava/lang/String;)Z"⟩, 6) := ⟨⟨by decide +kernel, by decide +kernel⟩, tb_1 143 rfl, tb_3 236 rfl, tb_3 237 rfl⟩
set_option maxRecDepth 10000 in
theorem lw_p20 : lw_okq (⟨"TwinLights$Tape", "readShip", "(LTwinLights$Fleet;I)Z"⟩, 6) := ⟨⟨by decide +kernel, by decide +kernel⟩, tb_1 143 rfl, tb_4 54 rfl, tb_4 55 rfl⟩
set_option maxRecDepth 10000 in
theorem lw_p21 : lw_okq (⟨"TwinLights$Tape", "readPart", "(LTwinLights$Ship;I)Z"⟩, 6) := ⟨⟨by decide +kernel, by decide +kernel⟩, tb_1 143 rfl, tb_4 61 rfl, tb_4 62 rfl⟩
set_option maxRecDepth 10000 in
theorem lw_p22 : lw_okq (⟨"TwinLights$Tape", "readLight", "(LTwinLights$Lights;I)Z"⟩, 6) := ⟨⟨by decide +kernel, by decide +kernel⟩, tb_1 143 rfl, tb_4 71 rfl, tb_4 72 rfl⟩
set_option maxRecDepth 10000 in
theorem lw_p23 : lw_okq (⟨"TwinLights", "troubleWithEither", "(II)I"⟩, 13) := ⟨⟨by decide +kernel, by decide +kernel⟩, tb_1 19 rfl, tb_4 115 rfl, tb_4 116 rfl⟩
set_option maxRecDepth 10000 in
theorem lw_p24 : lw_okq (⟨"TwinLightsModel", "become", "(II)I"⟩, 20) := ⟨⟨by decide +kernel, by decide +kernel⟩, tb_4 156 rfl, tb_5 3 rfl, tb_5 4 rfl⟩
set_option maxRecDepth 10000 in
theorem lw_p25 : lw_okq (⟨"TwinLightsModel", "finding", "(I)I"⟩, 20) := ⟨⟨by decide +kernel, by decide +kernel⟩, tb_4 156 rfl, tb_5 8 rfl, tb_5 9 rfl⟩
set_option maxRecDepth 10000 in
theorem lw_p26 : lw_okq (⟨"TwinLightsModel", "firstShows", "()I"⟩, 20) := ⟨⟨by decide +kernel, by decide +kernel⟩, tb_4 156 rfl, tb_5 16 rfl, tb_5 17 rfl⟩
set_option maxRecDepth 10000 in
theorem lw_p27 : lw_okq (⟨"TwinLightsModel", "secondShows", "()I"⟩, 20) := ⟨⟨by decide +kernel, by decide +kernel⟩, tb_4 156 rfl, tb_5 20 rfl, tb_5 21 rfl⟩
set_option maxRecDepth 10000 in
theorem lw_p28 : lw_okq (⟨"TwinLightsModel", "pastThen", "()I"⟩, 20) := ⟨⟨by decide +kernel, by decide +kernel⟩, tb_4 156 rfl, tb_5 24 rfl, tb_5 25 rfl⟩
set_option maxRecDepth 10000 in
theorem lw_p29 : lw_okq (⟨"TwinLightsModel", "comes", "(II)I"⟩, 20) := ⟨⟨by decide +kernel, by decide +kernel⟩, tb_4 156 rfl, tb_5 40 rfl, tb_5 41 rfl⟩
set_option maxRecDepth 10000 in
theorem lw_p30 : lw_okq (⟨"TwinLightsModel", "isShip", "(I)Z"⟩, 20) := ⟨⟨by decide +kernel, by decide +kernel⟩, tb_4 156 rfl, tb_5 51 rfl, tb_5 52 rfl⟩
set_option maxRecDepth 10000 in
theorem lw_p31 : lw_okq (⟨"TwinLightsModel", "shipIs", "(II)I"⟩, 20) := ⟨⟨by decide +kernel, by decide +kernel⟩, tb_4 156 rfl, tb_5 55 rfl, tb_5 56 rfl⟩
def lw_privs_2 : List (MethodName × Nat) := [(⟨"TwinLights$Tape", "numberRead", "()I"⟩, 6), (⟨"TwinLights$Tape", "readItem", "(LTwinLights$Sea;)Z"⟩, 6), (⟨"TwinLights$Tape", "kindOfWord", "()I"⟩, 6), (⟨"TwinLights$Tape", "isWord", "(Ljava/lang/String;)Z"⟩, 6), (⟨"TwinLights$Tape", "readShip", "(LTwinLights$Fleet;I)Z"⟩, 6), (⟨"TwinLights$Tape", "readPart", "(LTwinLights$Ship;I)Z"⟩, 6), (⟨"TwinLights$Tape", "readLight", "(LTwinLights$Lights;I)Z"⟩, 6), (⟨"TwinLights", "troubleWithEither", "(II)I"⟩, 13), (⟨"TwinLightsModel", "become", "(II)I"⟩, 20), (⟨"TwinLightsModel", "finding", "(I)I"⟩, 20), (⟨"TwinLightsModel", "firstShows", "()I"⟩, 20), (⟨"TwinLightsModel", "secondShows", "()I"⟩, 20), (⟨"TwinLightsModel", "pastThen", "()I"⟩, 20), (⟨"TwinLightsModel", "comes", "(II)I"⟩, 20), (⟨"TwinLightsModel", "isShip", "(I)Z"⟩, 20), (⟨"TwinLightsModel", "shipIs", "(II)I"⟩, 20)]
theorem lw_r2 : ∀ q ∈ lw_privs_2, lw_okq q := List.forall_mem_cons.mpr ⟨lw_p16, List.forall_mem_cons.mpr ⟨lw_p17, List.forall_mem_cons.mpr ⟨lw_p18, List.forall_mem_cons.mpr ⟨lw_p19, List.forall_mem_cons.mpr ⟨lw_p20, List.forall_mem_cons.mpr ⟨lw_p21, List.forall_mem_cons.mpr ⟨lw_p22, List.forall_mem_cons.mpr ⟨lw_p23, List.forall_mem_cons.mpr ⟨lw_p24, List.forall_mem_cons.mpr ⟨lw_p25, List.forall_mem_cons.mpr ⟨lw_p26, List.forall_mem_cons.mpr ⟨lw_p27, List.forall_mem_cons.mpr ⟨lw_p28, List.forall_mem_cons.mpr ⟨lw_p29, List.forall_mem_cons.mpr ⟨lw_p30, List.forall_mem_cons.mpr ⟨lw_p31, fun _ h => absurd h List.not_mem_nil⟩⟩⟩⟩⟩⟩⟩⟩⟩⟩⟩⟩⟩⟩⟩⟩
set_option maxRecDepth 10000 in
theorem lw_p32 : lw_okq (⟨"TwinLightsModel", "goes", "(I)I"⟩, 20) := ⟨⟨by decide +kernel, by decide +kernel⟩, tb_4 156 rfl, tb_5 59 rfl, tb_5 60 rfl⟩
set_option maxRecDepth 10000 in
theorem lw_p33 : lw_okq (⟨"TwinLightsModel", "shownNow", "()I"⟩, 20) := ⟨⟨by decide +kernel, by decide +kernel⟩, tb_4 156 rfl, tb_5 63 rfl, tb_5 64 rfl⟩
set_option maxRecDepth 10000 in
theorem lw_p34 : lw_okq (⟨"TwinLightsModel", "sees", "(II)I"⟩, 20) := ⟨⟨by decide +kernel, by decide +kernel⟩, tb_4 156 rfl, tb_5 67 rfl, tb_5 68 rfl⟩
set_option maxRecDepth 10000 in
theorem lw_p35 : lw_okq (⟨"TwinLightsModel", "near", "(I)I"⟩, 20) := ⟨⟨by decide +kernel, by decide +kernel⟩, tb_4 156 rfl, tb_5 71 rfl, tb_5 72 rfl⟩
set_option maxRecDepth 10000 in
theorem lw_p36 : lw_okq (⟨"TwinLightsModel", "isOut", "(I)Z"⟩, 20) := ⟨⟨by decide +kernel, by decide +kernel⟩, tb_4 156 rfl, tb_5 86 rfl, tb_5 87 rfl⟩
set_option maxRecDepth 10000 in
theorem lw_p37 : lw_okq (⟨"TwinLightsModel", "ticksGo", "(I)V"⟩, 20) := ⟨⟨by decide +kernel, by decide +kernel⟩, tb_4 156 rfl, tb_5 96 rfl, tb_5 97 rfl⟩
set_option maxRecDepth 10000 in
theorem lw_p38 : lw_okq (⟨"TwinLightsModel", "tick", "()V"⟩, 20) := ⟨⟨by decide +kernel, by decide +kernel⟩, tb_4 156 rfl, tb_5 100 rfl, tb_5 101 rfl⟩
set_option maxRecDepth 10000 in
theorem lw_p39 : lw_okq (⟨"TwinLightsModel", "steers", "(II)V"⟩, 20) := ⟨⟨by decide +kernel, by decide +kernel⟩, tb_4 156 rfl, tb_5 104 rfl, tb_5 105 rfl⟩
set_option maxRecDepth 10000 in
theorem lw_p40 : lw_okq (⟨"TwinLightsModel", "sumOf", "(I)I"⟩, 20) := ⟨⟨by decide +kernel, by decide +kernel⟩, tb_4 156 rfl, tb_5 113 rfl, tb_5 114 rfl⟩
set_option maxRecDepth 10000 in
theorem lw_p41 : lw_okq (⟨"TwinLightsModel", "inPort", "()I"⟩, 20) := ⟨⟨by decide +kernel, by decide +kernel⟩, tb_4 156 rfl, tb_5 121 rfl, tb_5 122 rfl⟩
set_option maxRecDepth 10000 in
theorem lw_p42 : lw_okq (⟨"TwinLightsModel", "cellsTaken", "()I"⟩, 20) := ⟨⟨by decide +kernel, by decide +kernel⟩, tb_4 156 rfl, tb_5 125 rfl, tb_5 126 rfl⟩
set_option maxRecDepth 10000 in
theorem lw_p43 : lw_okq (⟨"TwinLightsModel", "nearest", "()I"⟩, 20) := ⟨⟨by decide +kernel, by decide +kernel⟩, tb_4 156 rfl, tb_5 129 rfl, tb_5 130 rfl⟩
set_option maxRecDepth 10000 in
theorem lw_p44 : lw_okq (⟨"TwinLightsModel", "behind", "(II)I"⟩, 20) := ⟨⟨by decide +kernel, by decide +kernel⟩, tb_4 156 rfl, tb_5 137 rfl, tb_5 138 rfl⟩
set_option maxRecDepth 10000 in
theorem lw_p45 : lw_okq (⟨"TwinLightsModel", "putBack", "(I)I"⟩, 20) := ⟨⟨by decide +kernel, by decide +kernel⟩, tb_4 156 rfl, tb_5 144 rfl, tb_5 145 rfl⟩
set_option maxRecDepth 10000 in
theorem lw_p46 : lw_okq (⟨"TwinLightsModel", "orNone", "(I)I"⟩, 20) := ⟨⟨by decide +kernel, by decide +kernel⟩, tb_4 156 rfl, tb_5 156 rfl, tb_5 157 rfl⟩
set_option maxRecDepth 10000 in
theorem lw_p47 : lw_okq (⟨"TwinLightsModel", "leastFor", "(IIII)I"⟩, 20) := ⟨⟨by decide +kernel, by decide +kernel⟩, tb_4 156 rfl, tb_5 180 rfl, tb_5 181 rfl⟩
def lw_privs_3 : List (MethodName × Nat) := [(⟨"TwinLightsModel", "goes", "(I)I"⟩, 20), (⟨"TwinLightsModel", "shownNow", "()I"⟩, 20), (⟨"TwinLightsModel", "sees", "(II)I"⟩, 20), (⟨"TwinLightsModel", "near", "(I)I"⟩, 20), (⟨"TwinLightsModel", "isOut", "(I)Z"⟩, 20), (⟨"TwinLightsModel", "ticksGo", "(I)V"⟩, 20), (⟨"TwinLightsModel", "tick", "()V"⟩, 20), (⟨"TwinLightsModel", "steers", "(II)V"⟩, 20), (⟨"TwinLightsModel", "sumOf", "(I)I"⟩, 20), (⟨"TwinLightsModel", "inPort", "()I"⟩, 20), (⟨"TwinLightsModel", "cellsTaken", "()I"⟩, 20), (⟨"TwinLightsModel", "nearest", "()I"⟩, 20), (⟨"TwinLightsModel", "behind", "(II)I"⟩, 20), (⟨"TwinLightsModel", "putBack", "(I)I"⟩, 20), (⟨"TwinLightsModel", "orNone", "(I)I"⟩, 20), (⟨"TwinLightsModel", "leastFor", "(IIII)I"⟩, 20)]
theorem lw_r3 : ∀ q ∈ lw_privs_3, lw_okq q := List.forall_mem_cons.mpr ⟨lw_p32, List.forall_mem_cons.mpr ⟨lw_p33, List.forall_mem_cons.mpr ⟨lw_p34, List.forall_mem_cons.mpr ⟨lw_p35, List.forall_mem_cons.mpr ⟨lw_p36, List.forall_mem_cons.mpr ⟨lw_p37, List.forall_mem_cons.mpr ⟨lw_p38, List.forall_mem_cons.mpr ⟨lw_p39, List.forall_mem_cons.mpr ⟨lw_p40, List.forall_mem_cons.mpr ⟨lw_p41, List.forall_mem_cons.mpr ⟨lw_p42, List.forall_mem_cons.mpr ⟨lw_p43, List.forall_mem_cons.mpr ⟨lw_p44, List.forall_mem_cons.mpr ⟨lw_p45, List.forall_mem_cons.mpr ⟨lw_p46, List.forall_mem_cons.mpr ⟨lw_p47, fun _ h => absurd h List.not_mem_nil⟩⟩⟩⟩⟩⟩⟩⟩⟩⟩⟩⟩⟩⟩⟩⟩
set_option maxRecDepth 10000 in
theorem lw_p48 : lw_okq (⟨"TwinLightsModel", "strandedBehind", "(I)I"⟩, 20) := ⟨⟨by decide +kernel, by decide +kernel⟩, tb_4 156 rfl, tb_5 184 rfl, tb_5 185 rfl⟩
set_option maxRecDepth 10000 in
theorem lw_p49 : lw_okq (⟨"TwinLightsModel", "isKeptIn", "(III)Z"⟩, 20) := ⟨⟨by decide +kernel, by decide +kernel⟩, tb_4 156 rfl, tb_5 208 rfl, tb_5 209 rfl⟩
set_option maxRecDepth 10000 in
theorem lw_p50 : lw_okq (⟨"TwinLightsModel", "lacks", "(IZ)I"⟩, 20) := ⟨⟨by decide +kernel, by decide +kernel⟩, tb_4 156 rfl, tb_5 219 rfl, tb_5 220 rfl⟩
set_option maxRecDepth 10000 in
theorem lw_p51 : lw_okq (⟨"TwinLightsModel", "isShownSo", "(III)Z"⟩, 20) := ⟨⟨by decide +kernel, by decide +kernel⟩, tb_4 156 rfl, tb_5 227 rfl, tb_5 228 rfl⟩
set_option maxRecDepth 10000 in
theorem lw_p52 : lw_okq (⟨"TwinLightsModel", "isWaySo", "(II)Z"⟩, 20) := ⟨⟨by decide +kernel, by decide +kernel⟩, tb_4 156 rfl, tb_6 3 rfl, tb_6 4 rfl⟩
set_option maxRecDepth 10000 in
theorem lw_p53 : lw_okq (⟨"TwinLightsModel", "drawn", "()I"⟩, 20) := ⟨⟨by decide +kernel, by decide +kernel⟩, tb_4 156 rfl, tb_6 11 rfl, tb_6 12 rfl⟩
set_option maxRecDepth 10000 in
theorem lw_p54 : lw_okq (⟨"TwinLightsModel", "token", "()V"⟩, 20) := ⟨⟨by decide +kernel, by decide +kernel⟩, tb_4 156 rfl, tb_6 36 rfl, tb_6 37 rfl⟩
set_option maxRecDepth 10000 in
theorem lw_p55 : lw_okq (⟨"TwinLightsModel", "byteAt", "(I)I"⟩, 20) := ⟨⟨by decide +kernel, by decide +kernel⟩, tb_4 156 rfl, tb_6 40 rfl, tb_6 41 rfl⟩
set_option maxRecDepth 10000 in
theorem lw_p56 : lw_okq (⟨"TwinLightsModel", "readItem", "()V"⟩, 20) := ⟨⟨by decide +kernel, by decide +kernel⟩, tb_4 156 rfl, tb_6 44 rfl, tb_6 45 rfl⟩
set_option maxRecDepth 10000 in
theorem lw_p57 : lw_okq (⟨"TwinLightsModel", "isWord", "(Ljava/lang/String;)Z"⟩, 20) := ⟨⟨by decide +kernel, by decide +kernel⟩, tb_4 156 rfl, tb_6 48 rfl, tb_6 49 rfl⟩
set_option maxRecDepth 10000 in
theorem lw_p58 : lw_okq (⟨"TwinLightsModel", "readShip", "(I)V"⟩, 20) := ⟨⟨by decide +kernel, by decide +kernel⟩, tb_4 156 rfl, tb_6 54 rfl, tb_6 55 rfl⟩
set_option maxRecDepth 10000 in
theorem lw_p59 : lw_okq (⟨"TwinLightsModel", "must", "(Z)V"⟩, 20) := ⟨⟨by decide +kernel, by decide +kernel⟩, tb_4 156 rfl, tb_6 58 rfl, tb_6 59 rfl⟩
set_option maxRecDepth 10000 in
theorem lw_p60 : lw_okq (⟨"TwinLightsModel", "takesWord", "(Ljava/lang/String;)Z"⟩, 20) := ⟨⟨by decide +kernel, by decide +kernel⟩, tb_4 156 rfl, tb_6 63 rfl, tb_6 64 rfl⟩
set_option maxRecDepth 10000 in
theorem lw_p61 : lw_okq (⟨"TwinLightsModel", "number", "(II)I"⟩, 20) := ⟨⟨by decide +kernel, by decide +kernel⟩, tb_4 156 rfl, tb_6 67 rfl, tb_6 68 rfl⟩
set_option maxRecDepth 10000 in
theorem lw_p62 : lw_okq (⟨"TwinLightsModel", "addItem", "(IIIII)V"⟩, 20) := ⟨⟨by decide +kernel, by decide +kernel⟩, tb_4 156 rfl, tb_6 74 rfl, tb_6 75 rfl⟩
set_option maxRecDepth 10000 in
theorem lw_p63 : lw_okq (⟨"TwinLightsModel", "isToldSo", "(I)V"⟩, 20) := ⟨⟨by decide +kernel, by decide +kernel⟩, tb_4 156 rfl, tb_6 81 rfl, tb_6 82 rfl⟩
def lw_privs_4 : List (MethodName × Nat) := [(⟨"TwinLightsModel", "strandedBehind", "(I)I"⟩, 20), (⟨"TwinLightsModel", "isKeptIn", "(III)Z"⟩, 20), (⟨"TwinLightsModel", "lacks", "(IZ)I"⟩, 20), (⟨"TwinLightsModel", "isShownSo", "(III)Z"⟩, 20), (⟨"TwinLightsModel", "isWaySo", "(II)Z"⟩, 20), (⟨"TwinLightsModel", "drawn", "()I"⟩, 20), (⟨"TwinLightsModel", "token", "()V"⟩, 20), (⟨"TwinLightsModel", "byteAt", "(I)I"⟩, 20), (⟨"TwinLightsModel", "readItem", "()V"⟩, 20), (⟨"TwinLightsModel", "isWord", "(Ljava/lang/String;)Z"⟩, 20), (⟨"TwinLightsModel", "readShip", "(I)V"⟩, 20), (⟨"TwinLightsModel", "must", "(Z)V"⟩, 20), (⟨"TwinLightsModel", "takesWord", "(Ljava/lang/String;)Z"⟩, 20), (⟨"TwinLightsModel", "number", "(II)I"⟩, 20), (⟨"TwinLightsModel", "addItem", "(IIIII)V"⟩, 20), (⟨"TwinLightsModel", "isToldSo", "(I)V"⟩, 20)]
theorem lw_r4 : ∀ q ∈ lw_privs_4, lw_okq q := List.forall_mem_cons.mpr ⟨lw_p48, List.forall_mem_cons.mpr ⟨lw_p49, List.forall_mem_cons.mpr ⟨lw_p50, List.forall_mem_cons.mpr ⟨lw_p51, List.forall_mem_cons.mpr ⟨lw_p52, List.forall_mem_cons.mpr ⟨lw_p53, List.forall_mem_cons.mpr ⟨lw_p54, List.forall_mem_cons.mpr ⟨lw_p55, List.forall_mem_cons.mpr ⟨lw_p56, List.forall_mem_cons.mpr ⟨lw_p57, List.forall_mem_cons.mpr ⟨lw_p58, List.forall_mem_cons.mpr ⟨lw_p59, List.forall_mem_cons.mpr ⟨lw_p60, List.forall_mem_cons.mpr ⟨lw_p61, List.forall_mem_cons.mpr ⟨lw_p62, List.forall_mem_cons.mpr ⟨lw_p63, fun _ h => absurd h List.not_mem_nil⟩⟩⟩⟩⟩⟩⟩⟩⟩⟩⟩⟩⟩⟩⟩⟩
def lw_privs : List (MethodName × Nat) := lw_privs_1 ++ (lw_privs_2 ++ (lw_privs_3 ++ (lw_privs_4)))
def lw_tbl : List Cond := k2_sels lw_privs ++ tables_1
theorem lw_privs_ok : ∀ q ∈ lw_privs, lw_okq q := by
  show ∀ q ∈ lw_privs_1 ++ (lw_privs_2 ++ (lw_privs_3 ++ (lw_privs_4))), lw_okq q
  exact List.forall_mem_append.mpr ⟨lw_r1, List.forall_mem_append.mpr ⟨lw_r2, List.forall_mem_append.mpr ⟨lw_r3, lw_r4⟩⟩⟩
