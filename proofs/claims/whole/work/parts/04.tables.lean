/-! ===== the static world: shapes and links, strings, words ===== -/
def tw_shL : List (Nat × Nat) := [(8, 13), (4, 4), (2, 5), (1, 2), (11, 8), (6, 7), (6, 7), (6, 7), (6, 7), (6, 7), (6, 7), (6, 7), (6, 7), (10, 10), (4, 4), (2, 5), (1, 2), (11, 8), (6, 7), (6, 7), (6, 7), (6, 7), (6, 7), (6, 7), (6, 7), (6, 7), (10, 10), (7, 6), (10, 120), (13, 4), (10, 7), (4, 4), (2, 5), (1, 2), (11, 8), (6, 7), (6, 7), (6, 7), (6, 7), (6, 7), (6, 7), (6, 7), (6, 7), (10, 10), (2, 5), (6, 7), (6, 7), (10, 8), (0, 3), (3, 5), (2, 5), (12, 13), (1, 2), (11, 8), (6, 7), (6, 7), (6, 7), (6, 7), (6, 7), (6, 7), (6, 7), (6, 7), (1, 2), (11, 8), (6, 7), (6, 7), (6, 7), (6, 7), (6, 7), (6, 7), (6, 7), (6, 7), (1, 2), (11, 8), (6, 7), (6, 7), (6, 7), (6, 7), (6, 7), (6, 7), (6, 7), (6, 7), (1, 2), (11, 8), (6, 7), (6, 7), (6, 7), (6, 7), (6, 7), (6, 7), (6, 7), (6, 7), (1, 2), (11, 8), (6, 7), (6, 7), (6, 7), (6, 7), (6, 7), (6, 7), (6, 7), (6, 7), (1, 2), (11, 8), (6, 7), (6, 7), (6, 7), (6, 7), (6, 7), (6, 7), (6, 7), (6, 7), (1, 2), (11, 8), (6, 7), (6, 7), (6, 7), (6, 7), (6, 7), (6, 7), (6, 7), (6, 7), (1, 2), (11, 8), (6, 7), (6, 7), (6, 7), (6, 7), (6, 7), (6, 7), (6, 7), (6, 7), (1, 2), (11, 8), (6, 7), (6, 7), (6, 7), (6, 7), (6, 7), (6, 7), (6, 7), (6, 7), (1, 2), (11, 8), (6, 7), (6, 7), (6, 7), (6, 7), (6, 7), (6, 7), (6, 7), (6, 7), (1, 2), (11, 8), (6, 7), (6, 7), (6, 7), (6, 7), (6, 7), (6, 7), (6, 7), (6, 7), (1, 2), (11, 8), (6, 7), (6, 7), (6, 7), (6, 7), (6, 7), (6, 7), (6, 7), (6, 7), (1, 2), (11, 8), (6, 7), (6, 7), (6, 7), (6, 7), (6, 7), (6, 7), (6, 7), (6, 7), (5, 3), (10, 40), (5, 3), (10, 40), (5, 3), (10, 40), (5, 3), (10, 40), (9, 20), (10, 73), (10, 73), (10, 73), (10, 8), (10, 120), (14, 7), (10, 600), (10, 4), (10, 4), (10, 160), (10, 40)]
def tw_lkL : List (List Nat) := [[2, 15, 0, 28, 30, 31, 32, 45, 46, 47, 48, 49, 50], [3, 4, 14, 0], [], [5, 0], [6, 7, 8, 9, 10, 11, 12, 13], [], [], [], [], [], [], [], [], [], [16, 17, 27, 0], [], [18, 0], [19, 20, 21, 22, 23, 24, 25, 26], [], [], [], [], [], [], [], [], [], [29, 0, 0, 0, 0, 0], [], [183, 185, 187, 189], [], [33, 34, 44, 0], [], [35, 0], [36, 37, 38, 39, 40, 41, 42, 43], [], [], [], [], [], [], [], [], [], [], [], [], [], [], [51, 52, 0, 0, 0], [], [53, 63, 73, 83, 93, 103, 113, 123, 133, 143, 153, 163, 173], [54, 0], [55, 56, 57, 58, 59, 60, 61, 62], [], [], [], [], [], [], [], [], [64, 0], [65, 66, 67, 68, 69, 70, 71, 72], [], [], [], [], [], [], [], [], [74, 0], [75, 76, 77, 78, 79, 80, 81, 82], [], [], [], [], [], [], [], [], [84, 0], [85, 86, 87, 88, 89, 90, 91, 92], [], [], [], [], [], [], [], [], [94, 0], [95, 96, 97, 98, 99, 100, 101, 102], [], [], [], [], [], [], [], [], [104, 0], [105, 106, 107, 108, 109, 110, 111, 112], [], [], [], [], [], [], [], [], [114, 0], [115, 116, 117, 118, 119, 120, 121, 122], [], [], [], [], [], [], [], [], [124, 0], [125, 126, 127, 128, 129, 130, 131, 132], [], [], [], [], [], [], [], [], [134, 0], [135, 136, 137, 138, 139, 140, 141, 142], [], [], [], [], [], [], [], [], [144, 0], [145, 146, 147, 148, 149, 150, 151, 152], [], [], [], [], [], [], [], [], [154, 0], [155, 156, 157, 158, 159, 160, 161, 162], [], [], [], [], [], [], [], [], [164, 0], [165, 166, 167, 168, 169, 170, 171, 172], [], [], [], [], [], [], [], [], [174, 0], [175, 176, 177, 178, 179, 180, 181, 182], [], [], [], [], [], [], [], [], [184, 0, 0], [], [186, 0, 0], [], [188, 0, 0], [], [190, 0, 0], [], [192, 193, 194, 0, 195, 196, 0, 0, 0, 0, 0, 0, 197, 198, 0, 0, 199, 200, 201, 202], [], [], [], [], [], [217, 218, 219, 220, 221, 222, 223], [], [], [], [], []]
def tw_sh (k : Nat) : Nat × Nat := tw_shL.getD k (99, 0)
def tw_lk (k j : Nat) : Nat := (tw_lkL.getD k []).getD j 0
def tw_isK (k ci : Nat) : Bool := decide (k < 202) && (tw_sh k).1 == ci
def tw_strs : List (String × Nat × String) := [("TwinLights$Tape", 67, "ship"), ("TwinLights$Tape", 69, "tug"), ("TwinLights$Tape", 71, "liner"), ("TwinLights$Tape", 73, "yacht"), ("TwinLights$Tape", 75, "racer"), ("TwinLights$Tape", 77, "ghost"), ("TwinLights$Tape", 79, "pilot"), ("TwinLights$Tape", 108, "at"), ("TwinLights$Tape", 114, "back"), ("TwinLights$Tape", 121, "speed"), ("TwinLights$Tape", 123, "port"), ("TwinLights$Tape", 49, "pattern"), ("TwinLights$Tape", 63, "lag"), ("TwinLights$Tape", 65, "book"), ("TwinLightsModel", 27, "ship"), ("TwinLightsModel", 29, "tug"), ("TwinLightsModel", 31, "liner"), ("TwinLightsModel", 33, "yacht"), ("TwinLightsModel", 35, "racer"), ("TwinLightsModel", 37, "ghost"), ("TwinLightsModel", 39, "pilot"), ("TwinLightsModel", 258, "at"), ("TwinLightsModel", 266, "back"), ("TwinLightsModel", 268, "speed"), ("TwinLightsModel", 270, "port"), ("TwinLightsModel", 279, "pattern"), ("TwinLightsModel", 281, "lag"), ("TwinLightsModel", 283, "book")]
def tw_byt : List (List Int32) := [[115, 104, 105, 112], [116, 117, 103], [108, 105, 110, 101, 114], [121, 97, 99, 104, 116], [114, 97, 99, 101, 114], [103, 104, 111, 115, 116], [112, 105, 108, 111, 116], [97, 116], [98, 97, 99, 107], [115, 112, 101, 101, 100], [112, 111, 114, 116], [112, 97, 116, 116, 101, 114, 110], [108, 97, 103], [98, 111, 111, 107], [115, 104, 105, 112], [116, 117, 103], [108, 105, 110, 101, 114], [121, 97, 99, 104, 116], [114, 97, 99, 101, 114], [103, 104, 111, 115, 116], [112, 105, 108, 111, 116], [97, 116], [98, 97, 99, 107], [115, 112, 101, 101, 100], [112, 111, 114, 116], [112, 97, 116, 116, 101, 114, 110], [108, 97, 103], [98, 111, 111, 107]]
def tw_up : List Int32 := [-1, 0, 0, 2, 3, 0, 1]
def tw_nest : List (String × Nat × MethodName) := [("TwinLights$Sea", 11, ⟨"TwinLights$Lights", "<init>", "()V"⟩), ("TwinLights$Fleet", 21, ⟨"TwinLights$Ship", "<init>", "()V"⟩), ("TwinLights", 25, ⟨"TwinLights$Tape", "<init>", "()V"⟩), ("TwinLights", 45, ⟨"TwinLights$Lights", "<init>", "()V"⟩), ("TwinLights", 52, ⟨"TwinLights$Ship", "<init>", "()V"⟩), ("TwinLights", 65, ⟨"TwinLights$Demand", "<init>", "()V"⟩), ("TwinLights$PatternSearch", 11, ⟨"TwinLights$Lights", "<init>", "()V"⟩), ("TwinLights", 77, ⟨"TwinLights$Sheet", "<init>", "()V"⟩), ("TwinLights$Lights", 27, ⟨"TwinLights", "within", "(III)Z"⟩), ("TwinLights$Ship", 33, ⟨"TwinLights", "within", "(III)Z"⟩), ("TwinLights$Demand", 41, ⟨"TwinLights", "within", "(III)Z"⟩)]
def tw_gT : List Cond := lw_tbl.filter goodWord
theorem gT_s {w : Cond} (i : Nat) (h : (k2_sels lw_privs)[i]? = some w) (g : goodWord w = true) : w ∈ tw_gT := List.mem_filter.mpr ⟨List.mem_append_left _ (List.mem_of_getElem? h), g⟩
theorem gT_1 {w : Cond} (i : Nat) (h : tables_1_1[i]? = some w) (g : goodWord w = true) : w ∈ tw_gT := List.mem_filter.mpr ⟨List.mem_append_right _ (tb_1 i h), g⟩
theorem gT_2 {w : Cond} (i : Nat) (h : tables_1_2[i]? = some w) (g : goodWord w = true) : w ∈ tw_gT := List.mem_filter.mpr ⟨List.mem_append_right _ (tb_2 i h), g⟩
theorem gT_3 {w : Cond} (i : Nat) (h : tables_1_3[i]? = some w) (g : goodWord w = true) : w ∈ tw_gT := List.mem_filter.mpr ⟨List.mem_append_right _ (tb_3 i h), g⟩
theorem gT_4 {w : Cond} (i : Nat) (h : tables_1_4[i]? = some w) (g : goodWord w = true) : w ∈ tw_gT := List.mem_filter.mpr ⟨List.mem_append_right _ (tb_4 i h), g⟩
theorem gT_5 {w : Cond} (i : Nat) (h : tables_1_5[i]? = some w) (g : goodWord w = true) : w ∈ tw_gT := List.mem_filter.mpr ⟨List.mem_append_right _ (tb_5 i h), g⟩
theorem gT_6 {w : Cond} (i : Nat) (h : tables_1_6[i]? = some w) (g : goodWord w = true) : w ∈ tw_gT := List.mem_filter.mpr ⟨List.mem_append_right _ (tb_6 i h), g⟩
theorem sh_len : ∀ k, k < 202 → ∀ ci, ci < 10 → (tw_sh k).1 = ci → ∀ q, vwCl[ci]? = some q → q.2.2 = (tw_sh k).2 := by decide +kernel
theorem lk_int : ∀ k, k < 202 → (tw_sh k).1 = 10 → tw_lkL.getD k [] = [] := by decide +kernel
theorem lk_ref : ∀ k, k < 202 → 10 < (tw_sh k).1 → ∀ j, j < (tw_sh k).2 → tw_lk k j ≠ 0 := by decide +kernel
theorem sh_small : ∀ k, k < 202 → (tw_sh k).1 ≤ 14 := by decide +kernel
set_option maxRecDepth 10000 in
theorem cw_0 : ∀ w ∈ u_ws RX0 TX0 3, w ∈ tw_gT := by
  have h : u_ws RX0 TX0 3 = [.lays RX0 "TwinLights$Demand" "lit" "I", .lays RX0 "TwinLights$Demand" "dark" "I", .lays RX0 "TwinLights$Demand" "refused" "Z"] := rfl
  rw [h]
  refine List.forall_mem_cons.mpr ⟨gT_1 184 rfl rfl, ?_⟩
  refine List.forall_mem_cons.mpr ⟨gT_1 186 rfl rfl, ?_⟩
  refine List.forall_mem_cons.mpr ⟨gT_1 188 rfl rfl, ?_⟩
  exact fun _ h => absurd h List.not_mem_nil
set_option maxRecDepth 10000 in
theorem cw_1 : ∀ w ∈ u_ws RX1 TX1 2, w ∈ tw_gT := by
  have h : u_ws RX1 TX1 2 = [.laysFinal RX1 "TwinLights$Fleet" "ships" "[LTwinLights$Ship;", .lays RX1 "TwinLights$Fleet" "size" "I"] := rfl
  rw [h]
  refine List.forall_mem_cons.mpr ⟨gT_1 115 rfl rfl, ?_⟩
  refine List.forall_mem_cons.mpr ⟨gT_1 117 rfl rfl, ?_⟩
  exact fun _ h => absurd h List.not_mem_nil
set_option maxRecDepth 10000 in
theorem cw_2 : ∀ w ∈ u_ws RX2 TX2 5, w ∈ tw_gT := by
  have h : u_ws RX2 TX2 5 = [.lays RX2 "TwinLights$Lights" "pattern" "I", .lays RX2 "TwinLights$Lights" "lag" "I", .lays RX2 "TwinLights$Lights" "book" "I", .lays RX2 "TwinLights$Lights" "past" "I", .lays RX2 "TwinLights$Lights" "tick" "I"] := rfl
  rw [h]
  refine List.forall_mem_cons.mpr ⟨gT_1 50 rfl rfl, ?_⟩
  refine List.forall_mem_cons.mpr ⟨gT_1 52 rfl rfl, ?_⟩
  refine List.forall_mem_cons.mpr ⟨gT_1 54 rfl rfl, ?_⟩
  refine List.forall_mem_cons.mpr ⟨gT_1 56 rfl rfl, ?_⟩
  refine List.forall_mem_cons.mpr ⟨gT_1 58 rfl rfl, ?_⟩
  exact fun _ h => absurd h List.not_mem_nil
set_option maxRecDepth 10000 in
theorem cw_3 : ∀ w ∈ u_ws RX3 TX3 5, w ∈ tw_gT := by
  have h : u_ws RX3 TX3 5 = [.laysFinal RX3 "TwinLights$PatternSearch" "lights" "LTwinLights$Lights;", .laysFinal RX3 "TwinLights$PatternSearch" "fleets" "[LTwinLights$Fleet;", .lays RX3 "TwinLights$PatternSearch" "ticks" "I", .lays RX3 "TwinLights$PatternSearch" "best" "I", .lays RX3 "TwinLights$PatternSearch" "fewest" "I"] := rfl
  rw [h]
  refine List.forall_mem_cons.mpr ⟨gT_1 207 rfl rfl, ?_⟩
  refine List.forall_mem_cons.mpr ⟨gT_1 209 rfl rfl, ?_⟩
  refine List.forall_mem_cons.mpr ⟨gT_1 211 rfl rfl, ?_⟩
  refine List.forall_mem_cons.mpr ⟨gT_1 213 rfl rfl, ?_⟩
  refine List.forall_mem_cons.mpr ⟨gT_1 215 rfl rfl, ?_⟩
  exact fun _ h => absurd h List.not_mem_nil
set_option maxRecDepth 10000 in
theorem cw_4 : ∀ w ∈ u_ws RX4 TX4 4, w ∈ tw_gT := by
  have h : u_ws RX4 TX4 4 = [.laysFinal RX4 "TwinLights$Sea" "lights" "LTwinLights$Lights;", .laysFinal RX4 "TwinLights$Sea" "fleet" "LTwinLights$Fleet;", .laysFinal RX4 "TwinLights$Sea" "spots" "[I", .lays RX4 "TwinLights$Sea" "z" "I"] := rfl
  rw [h]
  refine List.forall_mem_cons.mpr ⟨gT_1 132 rfl rfl, ?_⟩
  refine List.forall_mem_cons.mpr ⟨gT_1 134 rfl rfl, ?_⟩
  refine List.forall_mem_cons.mpr ⟨gT_1 136 rfl rfl, ?_⟩
  refine List.forall_mem_cons.mpr ⟨gT_1 138 rfl rfl, ?_⟩
  exact fun _ h => absurd h List.not_mem_nil
set_option maxRecDepth 10000 in
theorem cw_5 : ∀ w ∈ u_ws RX5 TX5 3, w ∈ tw_gT := by
  have h : u_ws RX5 TX5 3 = [.laysFinal RX5 "TwinLights$Sheet" "numbers" "[I", .lays RX5 "TwinLights$Sheet" "bits" "I", .lays RX5 "TwinLights$Sheet" "size" "I"] := rfl
  rw [h]
  refine List.forall_mem_cons.mpr ⟨gT_1 231 rfl rfl, ?_⟩
  refine List.forall_mem_cons.mpr ⟨gT_1 233 rfl rfl, ?_⟩
  refine List.forall_mem_cons.mpr ⟨gT_1 235 rfl rfl, ?_⟩
  exact fun _ h => absurd h List.not_mem_nil
set_option maxRecDepth 10000 in
theorem cw_6 : ∀ w ∈ u_ws RX6 TX6 7, w ∈ tw_gT := by
  have h : u_ws RX6 TX6 7 = [.lays RX6 "TwinLights$Ship" "kind" "I", .lays RX6 "TwinLights$Ship" "cell" "I", .lays RX6 "TwinLights$Ship" "way" "I", .lays RX6 "TwinLights$Ship" "speed" "I", .lays RX6 "TwinLights$Ship" "port" "I", .lays RX6 "TwinLights$Ship" "stranded" "I", .lays RX6 "TwinLights$Ship" "saw" "I"] := rfl
  rw [h]
  refine List.forall_mem_cons.mpr ⟨gT_1 92 rfl rfl, ?_⟩
  refine List.forall_mem_cons.mpr ⟨gT_1 94 rfl rfl, ?_⟩
  refine List.forall_mem_cons.mpr ⟨gT_1 96 rfl rfl, ?_⟩
  refine List.forall_mem_cons.mpr ⟨gT_1 98 rfl rfl, ?_⟩
  refine List.forall_mem_cons.mpr ⟨gT_1 100 rfl rfl, ?_⟩
  refine List.forall_mem_cons.mpr ⟨gT_1 102 rfl rfl, ?_⟩
  refine List.forall_mem_cons.mpr ⟨gT_1 104 rfl rfl, ?_⟩
  exact fun _ h => absurd h List.not_mem_nil
set_option maxRecDepth 10000 in
theorem cw_7 : ∀ w ∈ u_ws RX7 TX7 6, w ∈ tw_gT := by
  have h : u_ws RX7 TX7 6 = [.laysFinal RX7 "TwinLights$Tape" "bytes" "[I", .lays RX7 "TwinLights$Tape" "size" "I", .lays RX7 "TwinLights$Tape" "type" "I", .lays RX7 "TwinLights$Tape" "begin" "I", .lays RX7 "TwinLights$Tape" "end" "I", .lays RX7 "TwinLights$Tape" "value" "I"] := rfl
  rw [h]
  refine List.forall_mem_cons.mpr ⟨gT_1 155 rfl rfl, ?_⟩
  refine List.forall_mem_cons.mpr ⟨gT_1 157 rfl rfl, ?_⟩
  refine List.forall_mem_cons.mpr ⟨gT_1 159 rfl rfl, ?_⟩
  refine List.forall_mem_cons.mpr ⟨gT_1 161 rfl rfl, ?_⟩
  refine List.forall_mem_cons.mpr ⟨gT_1 163 rfl rfl, ?_⟩
  refine List.forall_mem_cons.mpr ⟨gT_1 165 rfl rfl, ?_⟩
  exact fun _ h => absurd h List.not_mem_nil
set_option maxRecDepth 10000 in
theorem cw_8 : ∀ w ∈ u_ws RX8 TX8 13, w ∈ tw_gT := by
  have h : u_ws RX8 TX8 13 = [.laysFinal RX8 "TwinLights" "sea" "LTwinLights$Sea;", .laysFinal RX8 "TwinLights" "kept" "LTwinLights$Sea;", .lays RX8 "TwinLights" "keeps" "Z", .laysFinal RX8 "TwinLights" "tape" "LTwinLights$Tape;", .laysFinal RX8 "TwinLights" "sheets" "[LTwinLights$Sheet;", .laysFinal RX8 "TwinLights" "findings" "[I", .laysFinal RX8 "TwinLights" "draft" "LTwinLights$Sea;", .laysFinal RX8 "TwinLights" "trialLights" "LTwinLights$Lights;", .laysFinal RX8 "TwinLights" "trialShip" "LTwinLights$Ship;", .laysFinal RX8 "TwinLights" "otherShip" "LTwinLights$Ship;", .laysFinal RX8 "TwinLights" "gains" "[I", .laysFinal RX8 "TwinLights" "demand" "LTwinLights$Demand;", .laysFinal RX8 "TwinLights" "search" "LTwinLights$PatternSearch;"] := rfl
  rw [h]
  refine List.forall_mem_cons.mpr ⟨gT_2 11 rfl rfl, ?_⟩
  refine List.forall_mem_cons.mpr ⟨gT_2 13 rfl rfl, ?_⟩
  refine List.forall_mem_cons.mpr ⟨gT_2 15 rfl rfl, ?_⟩
  refine List.forall_mem_cons.mpr ⟨gT_2 17 rfl rfl, ?_⟩
  refine List.forall_mem_cons.mpr ⟨gT_2 19 rfl rfl, ?_⟩
  refine List.forall_mem_cons.mpr ⟨gT_2 21 rfl rfl, ?_⟩
  refine List.forall_mem_cons.mpr ⟨gT_2 23 rfl rfl, ?_⟩
  refine List.forall_mem_cons.mpr ⟨gT_2 25 rfl rfl, ?_⟩
  refine List.forall_mem_cons.mpr ⟨gT_2 27 rfl rfl, ?_⟩
  refine List.forall_mem_cons.mpr ⟨gT_2 29 rfl rfl, ?_⟩
  refine List.forall_mem_cons.mpr ⟨gT_2 31 rfl rfl, ?_⟩
  refine List.forall_mem_cons.mpr ⟨gT_2 33 rfl rfl, ?_⟩
  refine List.forall_mem_cons.mpr ⟨gT_2 35 rfl rfl, ?_⟩
  exact fun _ h => absurd h List.not_mem_nil
set_option maxRecDepth 10000 in
theorem cw_9 : ∀ w ∈ u_ws RX9 TX9 20, w ∈ tw_gT := by
  have h : u_ws RX9 TX9 20 = [.laysFinal RX9 "TwinLightsModel" "now" "[I", .laysFinal RX9 "TwinLightsModel" "kept" "[I", .laysFinal RX9 "TwinLightsModel" "aside" "[I", .lays RX9 "TwinLightsModel" "isKept" "Z", .laysFinal RX9 "TwinLightsModel" "found" "[I", .laysFinal RX9 "TwinLightsModel" "tape" "[I", .lays RX9 "TwinLightsModel" "taped" "I", .lays RX9 "TwinLightsModel" "begins" "I", .lays RX9 "TwinLightsModel" "ends" "I", .lays RX9 "TwinLightsModel" "sort" "I", .lays RX9 "TwinLightsModel" "value" "I", .lays RX9 "TwinLightsModel" "isWrong" "Z", .laysFinal RX9 "TwinLightsModel" "kindNames" "[Ljava/lang/String;", .laysFinal RX9 "TwinLightsModel" "items" "[I", .lays RX9 "TwinLightsModel" "itemMany" "I", .lays RX9 "TwinLightsModel" "shipsThen" "I", .laysFinal RX9 "TwinLightsModel" "widths" "[I", .laysFinal RX9 "TwinLightsModel" "sizes" "[I", .laysFinal RX9 "TwinLightsModel" "numbers" "[I", .laysFinal RX9 "TwinLightsModel" "moved" "[I"] := rfl
  rw [h]
  refine List.forall_mem_cons.mpr ⟨gT_4 190 rfl rfl, ?_⟩
  refine List.forall_mem_cons.mpr ⟨gT_4 192 rfl rfl, ?_⟩
  refine List.forall_mem_cons.mpr ⟨gT_4 194 rfl rfl, ?_⟩
  refine List.forall_mem_cons.mpr ⟨gT_4 196 rfl rfl, ?_⟩
  refine List.forall_mem_cons.mpr ⟨gT_4 198 rfl rfl, ?_⟩
  refine List.forall_mem_cons.mpr ⟨gT_4 200 rfl rfl, ?_⟩
  refine List.forall_mem_cons.mpr ⟨gT_4 202 rfl rfl, ?_⟩
  refine List.forall_mem_cons.mpr ⟨gT_4 204 rfl rfl, ?_⟩
  refine List.forall_mem_cons.mpr ⟨gT_4 206 rfl rfl, ?_⟩
  refine List.forall_mem_cons.mpr ⟨gT_4 208 rfl rfl, ?_⟩
  refine List.forall_mem_cons.mpr ⟨gT_4 210 rfl rfl, ?_⟩
  refine List.forall_mem_cons.mpr ⟨gT_4 212 rfl rfl, ?_⟩
  refine List.forall_mem_cons.mpr ⟨gT_4 214 rfl rfl, ?_⟩
  refine List.forall_mem_cons.mpr ⟨gT_4 216 rfl rfl, ?_⟩
  refine List.forall_mem_cons.mpr ⟨gT_4 218 rfl rfl, ?_⟩
  refine List.forall_mem_cons.mpr ⟨gT_4 220 rfl rfl, ?_⟩
  refine List.forall_mem_cons.mpr ⟨gT_4 222 rfl rfl, ?_⟩
  refine List.forall_mem_cons.mpr ⟨gT_4 224 rfl rfl, ?_⟩
  refine List.forall_mem_cons.mpr ⟨gT_4 226 rfl rfl, ?_⟩
  refine List.forall_mem_cons.mpr ⟨gT_4 228 rfl rfl, ?_⟩
  exact fun _ h => absurd h List.not_mem_nil
theorem cw_all : ∀ (ci : Nat) (q : vw_C), vwCl[ci]? = some q → (∀ w ∈ u_ws q.1 q.2.1 q.2.2, w ∈ tw_gT) ∧ (∃ ty0 : Nat → FieldType, ∀ k, k < q.2.2 → parseFieldDescriptor (q.2.1 k).2.2.1 = some (ty0 k)) ∧ (∀ a, a < q.2.2 → ∀ b, b < q.2.2 → a ≠ b → (q.2.1 a).2.1 ≠ (q.2.1 b).2.1) := by
  intro ci q h
  match ci, h with
  | 0, h => cases h; exact ⟨cw_0, ⟨tyX0, tyX0_ok⟩, nmX0⟩
  | 1, h => cases h; exact ⟨cw_1, ⟨tyX1, tyX1_ok⟩, nmX1⟩
  | 2, h => cases h; exact ⟨cw_2, ⟨tyX2, tyX2_ok⟩, nmX2⟩
  | 3, h => cases h; exact ⟨cw_3, ⟨tyX3, tyX3_ok⟩, nmX3⟩
  | 4, h => cases h; exact ⟨cw_4, ⟨tyX4, tyX4_ok⟩, nmX4⟩
  | 5, h => cases h; exact ⟨cw_5, ⟨tyX5, tyX5_ok⟩, nmX5⟩
  | 6, h => cases h; exact ⟨cw_6, ⟨tyX6, tyX6_ok⟩, nmX6⟩
  | 7, h => cases h; exact ⟨cw_7, ⟨tyX7, tyX7_ok⟩, nmX7⟩
  | 8, h => cases h; exact ⟨cw_8, ⟨tyX8, tyX8_ok⟩, nmX8⟩
  | 9, h => cases h; exact ⟨cw_9, ⟨tyX9, tyX9_ok⟩, nmX9⟩
  | k + 10, h => simp [vwCl] at h
