/-! ===== what the Statement gives of the start ===== -/
theorem tbl_1 {w : Cond} (i : Nat) (h : tables_1_1[i]? = some w) : w ∈ lw_tbl := List.mem_append_right _ (tb_1 i h)
theorem tbl_2 {w : Cond} (i : Nat) (h : tables_1_2[i]? = some w) : w ∈ lw_tbl := List.mem_append_right _ (tb_2 i h)
theorem tbl_3 {w : Cond} (i : Nat) (h : tables_1_3[i]? = some w) : w ∈ lw_tbl := List.mem_append_right _ (tb_3 i h)
theorem tbl_4 {w : Cond} (i : Nat) (h : tables_1_4[i]? = some w) : w ∈ lw_tbl := List.mem_append_right _ (tb_4 i h)
theorem tbl_5 {w : Cond} (i : Nat) (h : tables_1_5[i]? = some w) : w ∈ lw_tbl := List.mem_append_right _ (tb_5 i h)
theorem tbl_6 {w : Cond} (i : Nat) (h : tables_1_6[i]? = some w) : w ∈ lw_tbl := List.mem_append_right _ (tb_6 i h)
def sT (i : Nat) : Term := .string (tw_strs.getD i ("", 0, "")).1 (tw_strs.getD i ("", 0, "")).2.1
def sV (i : Nat) : Term := .field (sT i) "java/lang/String" "value" "[B"
def sP : List Nat := [49, 57, 64, 73, 82, 91, 100, 109, 115, 123, 132, 140, 151, 158, 166, 175, 183, 193, 203, 213, 223, 233, 240, 249, 259, 268, 280, 288]
def nar : List Cond := flatC (.and given_1 narrow_1)
theorem nar_ex : ∀ i, i < 28 → nar[sP.getD i 0]? = some (.exactly (sT i) "java/lang/String") := by decide +kernel
theorem nar_co : ∀ i, i < 28 → nar[sP.getD i 0 + 1]? = some (.eq (.field (sT i) "java/lang/String" "coder" "B") (.int 0)) := by decide +kernel
theorem nar_ar : ∀ i, i < 28 → nar[sP.getD i 0 + 2]? = some (.arrayOf (sV i) .byte) := by decide +kernel
theorem nar_le : ∀ i, i < 28 → nar[sP.getD i 0 + 3]? = some (.eq (.length (sV i)) (.int (Int32.ofNat (tw_byt.getD i []).length))) := by decide +kernel
theorem nar_el : ∀ i, i < 28 → ∀ j, j < (tw_byt.getD i []).length → nar[sP.getD i 0 + 4 + j]? = some (.eq (.elem (sV i) (.int (Int32.ofNat j))) (.int ((tw_byt.getD i []).getD j 0))) := by decide +kernel
theorem nar_len : ∀ i, i < 28 → (tw_byt.getD i []).length < 2 ^ 31 := by decide +kernel
theorem nar_cs : nar[4]? = some (.eq (.static "java/lang/String" "COMPACT_STRINGS" "Z") (.int 1)) := by decide +kernel
theorem nar_si : nar[5]? = some (.isRef (.static "jdk/internal/util/Preconditions" "SIOOBE_FORMATTER" "Ljava/util/function/BiFunction;")) := by decide +kernel
theorem nar_ua : nar[10]? = some (.arrayOf (.static "TwinLights" "UPPER_KIND" "[I") .int) := by decide +kernel
theorem nar_ul : nar[11]? = some (.eq (.length (.static "TwinLights" "UPPER_KIND" "[I")) (.int (Int32.ofNat 7))) := by decide +kernel
theorem nar_ue : ∀ j, j < 7 → nar[12 + j]? = some (.eq (.elem (.static "TwinLights" "UPPER_KIND" "[I") (.int (Int32.ofNat j))) (.int (tw_up.getD j 0))) := by decide +kernel
