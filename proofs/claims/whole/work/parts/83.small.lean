/-! ===== constructors of the small classes ===== -/
set_option maxRecDepth 10000 in
theorem ac_int : Cond.arrayClass .int ∈ tw_gT := gT_1 141 rfl rfl
def nput (c : Nat → Nat → Value) (k j : Nat) (v : Value) : Nat → Nat → Value := nset c k (fun i => if i = j then v else c k i)
section NX
variable {K : tw_K} {M : Mt} {d : Nat} {pc : Nat} {ls st : List Value} {n cl sl : Nat} {c : Nat → Nat → Value}
theorem nx_new (F : tw_FN K M d) {index ci : Nat} {q : vw_C} (ty : Nat → FieldType) (hd : decode M.2.1 pc = .ok (.new index, 3)) (hq : vwCl[ci]? = some q) (hty : ∀ k, k < q.2.2 → parseFieldDescriptor (q.2.1 k).2.2.1 = some (ty k)) (hsh : tw_sh n = (ci, q.2.2)) (hn : n < 202) (hcl : Cond.classLink M.1.cls index q.1 ∈ tw_gT) (hinst : Cond.instantiable q.1 q.2.2 ∈ tw_gT) (hini : Cond.initialized q.1 ∈ tw_gT) (hcells : cl + 1 ≤ K.2.2.1.1) (hslots : sl + q.2.2 ≤ K.2.2.1.2.1)
    (kk : tw_N K (pc + 3) ls (.ref n :: st) (n + 1, nset c n (fun j => defaultValue (ty j)), cl + 1, sl + q.2.2)) : tw_N K pc ls st (n, c, cl, sl) := nw_new (X := (n, c, cl, sl)) F ty hd hq hty hsh hn hcl hinst hini hcells hslots kk
theorem nx_newa (F : tw_FN K M d) {i : Int32} {N : Nat} (hd : decode M.2.1 pc = .ok (.newarray .int, 2)) (hi : i = nI N) (hN : N < 1000) (hsh : tw_sh n = (10, N)) (hn : n < 202) (hcells : cl + 1 ≤ K.2.2.1.1) (hslots : sl + N ≤ K.2.2.1.2.1)
    (kk : tw_N K (pc + 2) ls (.ref n :: st) (n + 1, nset c n (fun _ => .int 0), cl + 1, sl + N)) : tw_N K pc ls (.int i :: st) (n, c, cl, sl) := nw_newa (X := (n, c, cl, sl)) F hd ac_int hi hN hsh hn hcells hslots kk
theorem nx_newq (F : tw_FN K M d) {index t : Nat} {C : String} {i : Int32} {N : Nat} (hd : decode M.2.1 pc = .ok (.anewarray index, 3)) (hcl : Cond.classLink M.1.cls index C ∈ tw_gT) (hov : C ∈ (["TwinLights$Ship", "TwinLights$Fleet", "TwinLights$Sheet", "java/lang/String"] : List String)) (ht : 10 < t) (hC : ∀ cy, (tw_tys cy)[t - 10]? = some (cy (t - 10), .object C)) (hi : i = nI N) (hN : N < 1000) (hsh : tw_sh n = (t, N)) (hn : n < 202) (hcells : cl + 1 ≤ K.2.2.1.1) (hslots : sl + N ≤ K.2.2.1.2.1)
    (kk : tw_N K (pc + 3) ls (.ref n :: st) (n + 1, nset c n (fun _ => .null), cl + 1, sl + N)) : tw_N K pc ls (.int i :: st) (n, c, cl, sl) := nw_newq (X := (n, c, cl, sl)) F hd hcl hov ht hC hi hN hsh hn hcells hslots kk
theorem nx_iast (F : tw_FN K M d) {k j N : Nat} {i v : Int32} (hd : decode M.2.1 pc = .ok (.iastore, 1)) (hk : k < n) (hn : n ≤ 202) (hsh : tw_sh k = (10, N)) (hi : i = nI j) (hj : j < N) (hN : N < 1000) (kk : tw_N K (pc + 1) ls st (n, nput c k j (.int v), cl, sl)) : tw_N K pc ls (.int v :: .int i :: .ref k :: st) (n, c, cl, sl) := nw_iast (X := (n, c, cl, sl)) F hd hk hn hsh hi hj hN kk
theorem nx_aast (F : tw_FN K M d) {k j r t ci N : Nat} {q : vw_C} {i : Int32} (hd : decode M.2.1 pc = .ok (.aastore, 1)) (hk : k < n) (hr : r < n) (hn : n ≤ 202) (ht : 10 < t) (hsh : tw_sh k = (t, N)) (hq : vwCl[ci]? = some q) (hshr : tw_sh r = (ci, q.2.2)) (hC : ∀ cy, (tw_tys cy)[t - 10]? = some (cy (t - 10), .object q.1)) (hi : i = nI j) (hj : j < N) (hN : N < 1000) (kk : tw_N K (pc + 1) ls st (n, nput c k j (.ref r), cl, sl)) : tw_N K pc ls (.ref r :: .int i :: .ref k :: st) (n, c, cl, sl) := nw_aast (X := (n, c, cl, sl)) F hd hk hr hn ht hsh hq hshr hC hi hj hN kk
theorem nx_put (F : tw_FN K M d) {index ci k j : Nat} {q : vw_C} {ty : FieldType} {v : Int32} (hd : decode M.2.1 pc = .ok (.putfield index, 3)) (hq : vwCl[ci]? = some q) (hj : j < q.2.2) (hk : k < n) (hn : n ≤ 202) (hsh : tw_sh k = (ci, q.2.2)) (hw : Cond.fieldLink M.1.cls index (q.2.1 j).1 (q.2.1 j).2.1 (q.2.1 j).2.2.1 ∈ tw_gT) (hfin : (q.2.1 j).2.2.2 = false) (hdsc : parseFieldDescriptor (q.2.1 j).2.2.1 = some ty) (hnr : narrow ty (.int v) = .int v) (hf : fits ty (.int v) = true) (kk : tw_N K (pc + 3) ls st (n, nput c k j (.int v), cl, sl)) : tw_N K pc ls (.int v :: .ref k :: st) (n, c, cl, sl) := nw_put (X := (n, c, cl, sl)) F hd hq hj hk hn hsh hw hfin hdsc (fun _ => hnr) (fun _ => hf) kk
theorem nx_putF (F : tw_FN K M d) (hinit : K.2.1.2.1.name = "<init>") {index ci k j r : Nat} {q : vw_C} {ty : FieldType} (hd : decode M.2.1 pc = .ok (.putfield index, 3)) (hq : vwCl[ci]? = some q) (hj : j < q.2.2) (hk : k < n) (hn : n ≤ 202) (hsh : tw_sh k = (ci, q.2.2)) (hw : Cond.fieldLink M.1.cls index (q.2.1 j).1 (q.2.1 j).2.1 (q.2.1 j).2.2.1 ∈ tw_gT) (hfin : (q.2.1 j).2.2.2 = true) (hdecl : (q.2.1 j).1 = M.1.cls) (hdsc : parseFieldDescriptor (q.2.1 j).2.2.1 = some ty) (hnr : ∀ a, narrow ty (.ref a) = .ref a) (hf : ∀ a, fits ty (.ref a) = true) (kk : tw_N K (pc + 3) ls st (n, nput c k j (.ref r), cl, sl)) : tw_N K pc ls (.ref r :: .ref k :: st) (n, c, cl, sl) := nw_putF (X := (n, c, cl, sl)) F hinit hd hq hj hk hn hsh hw hfin hdecl hdsc (fun ρ => hnr (ρ r)) (fun ρ => hf (ρ r)) kk
theorem nx_getR (F : tw_FN K M d) {index ci k j r : Nat} {q : vw_C} (hd : decode M.2.1 pc = .ok (.getfield index, 3)) (hq : vwCl[ci]? = some q) (hj : j < q.2.2) (hk : k < n) (hn : n ≤ 202) (hsh : tw_sh k = (ci, q.2.2)) (hw : Cond.fieldLink M.1.cls index (q.2.1 j).1 (q.2.1 j).2.1 (q.2.1 j).2.2.1 ∈ tw_gT) (hv : c k j = .ref r) (kk : tw_N K (pc + 3) ls (.ref r :: st) (n, c, cl, sl)) : tw_N K pc ls (.ref k :: st) (n, c, cl, sl) := nw_getR (X := (n, c, cl, sl)) F hd hq hj hk hn hsh hw hv kk
end NX
theorem n_Ship {E : tw_E} (hE : nw_AE E) {k n : Nat} {c : Nat → Nat → Value} : tw_Cn E 1 0 0 mX6_init k n n c c := by
  refine nw_of hE (by decide) rfl rfl (by decide) (fun K hK hi h1 h2 F ret => ?_)
  refine nw_aload_n F dc_X6_init_0 rfl ?_
  refine nw_objInit F dc_X6_init_1 mo_RX6_3 o_i o_c (by decide) (by decide) ?_
  exact ret _ _ dc_X6_init_4
theorem n_Demand {E : tw_E} (hE : nw_AE E) {k n : Nat} {c : Nat → Nat → Value} : tw_Cn E 1 0 0 mX0_init k n n c c := by
  refine nw_of hE (by decide) rfl rfl (by decide) (fun K hK hi h1 h2 F ret => ?_)
  refine nw_aload_n F dc_X0_init_0 rfl ?_
  refine nw_objInit F dc_X0_init_1 mo_RX0_3 o_i o_c (by decide) (by decide) ?_
  exact ret _ _ dc_X0_init_4
theorem n_Lights {E : tw_E} (hE : nw_AE E) {k n : Nat} {c : Nat → Nat → Value} (hk : k < n) (hn : n ≤ 202) (hs : tw_sh k = (2, 5)) : tw_Cn E 1 0 0 mX2_init k n n c (nput (nput (nput (nput (nput c k 0 (.int 5)) k 1 (.int 4)) k 2 (.int 1)) k 3 (.int 0)) k 4 (.int 0)) := by
  refine nw_of hE (by decide) rfl rfl (by decide) (fun K hK hi h1 h2 F ret => ?_)
  refine nw_aload_n F dc_X2_init_0 rfl ?_
  refine nw_objInit F dc_X2_init_1 mo_RX2_3 o_i o_c (by decide) (by decide) ?_
  refine nw_aload_n F dc_X2_init_4 rfl ?_
  refine nw_iconst (v := 5) F dc_X2_init_5 rfl ?_
  refine nx_put (ci := 2) (j := 0) (ty := .int) F dc_X2_init_6 rfl (by decide) hk hn hs fk_RX2_9 rfl (by decide +kernel) rfl rfl ?_
  refine nw_aload_n F dc_X2_init_9 rfl ?_
  refine nw_iconst (v := 4) F dc_X2_init_10 rfl ?_
  refine nx_put (ci := 2) (j := 1) (ty := .int) F dc_X2_init_11 rfl (by decide) hk hn hs fk_RX2_15 rfl (by decide +kernel) rfl rfl ?_
  refine nw_aload_n F dc_X2_init_14 rfl ?_
  refine nw_iconst (v := 1) F dc_X2_init_15 rfl ?_
  refine nx_put (ci := 2) (j := 2) (ty := .int) F dc_X2_init_16 rfl (by decide) hk hn hs fk_RX2_18 rfl (by decide +kernel) rfl rfl ?_
  refine nw_aload_n F dc_X2_init_19 rfl ?_
  refine nw_iconst (v := 0) F dc_X2_init_20 rfl ?_
  refine nx_put (ci := 2) (j := 3) (ty := .int) F dc_X2_init_21 rfl (by decide) hk hn hs fk_RX2_21 rfl (by decide +kernel) rfl rfl ?_
  refine nw_aload_n F dc_X2_init_24 rfl ?_
  refine nw_iconst (v := 0) F dc_X2_init_25 rfl ?_
  refine nx_put (ci := 2) (j := 4) (ty := .int) F dc_X2_init_26 rfl (by decide) hk hn hs fk_RX2_24 rfl (by decide +kernel) rfl rfl ?_
  exact ret _ _ dc_X2_init_29
theorem n_Tape {E : tw_E} (hE : nw_AE E) {b : Nat} {c : Nat → Nat → Value} (hn : b + 1 < 202) (hs : tw_sh b = (7, 6)) (hs1 : tw_sh (b + 1) = (10, 120)) : tw_Cn E 1 1 120 mX7_init b (b + 1) (b + 1 + 1) c (nput (nput (nset c (b + 1) (fun _ => .int 0)) b 0 (.ref (b + 1))) b 1 (.int 0)) := by
  refine nw_of hE (by decide) rfl rfl (by decide) (fun K hK hi h1 h2 F ret => ?_)
  refine nw_aload_n F dc_X7_init_0 rfl ?_
  refine nw_objInit F dc_X7_init_1 mo_RX7_3 o_i o_c (by decide) (by decide) ?_
  refine nw_aload_n F dc_X7_init_4 rfl ?_
  refine nw_bipush (v := 120) F dc_X7_init_5 rfl ?_
  refine nx_newa (N := 120) F dc_X7_init_7 rfl (by decide) hs1 hn (by omega) (by omega) ?_
  refine nx_putF (ci := 7) (j := 0) (ty := .array .int) F hi dc_X7_init_9 rfl (by decide) (by omega) (by omega) hs fk_RX7_9 rfl rfl (by decide +kernel) (fun _ => rfl) (fun _ => rfl) ?_
  refine nw_aload_n F dc_X7_init_12 rfl ?_
  refine nw_iconst (v := 0) F dc_X7_init_13 rfl ?_
  refine nx_put (ci := 7) (j := 1) (ty := .int) F dc_X7_init_14 rfl (by decide) (by omega) (by omega) hs fk_RX7_15 rfl (by decide +kernel) rfl rfl ?_
  exact ret _ _ dc_X7_init_17
theorem n_Sheet {E : tw_E} (hE : nw_AE E) {b : Nat} {c : Nat → Nat → Value} (hn : b + 1 < 202) (hs : tw_sh b = (5, 3)) (hs1 : tw_sh (b + 1) = (10, 40)) : tw_Cn E 1 1 40 mX5_init b (b + 1) (b + 1 + 1) c (nput (nput (nput (nset c (b + 1) (fun _ => .int 0)) b 0 (.ref (b + 1))) b 1 (.int 0)) b 2 (.int 0)) := by
  refine nw_of hE (by decide) rfl rfl (by decide) (fun K hK hi h1 h2 F ret => ?_)
  refine nw_aload_n F dc_X5_init_0 rfl ?_
  refine nw_objInit F dc_X5_init_1 mo_RX5_3 o_i o_c (by decide) (by decide) ?_
  refine nw_aload_n F dc_X5_init_4 rfl ?_
  refine nw_bipush (v := 40) F dc_X5_init_5 rfl ?_
  refine nx_newa (N := 40) F dc_X5_init_7 rfl (by decide) hs1 hn (by omega) (by omega) ?_
  refine nx_putF (ci := 5) (j := 0) (ty := .array .int) F hi dc_X5_init_9 rfl (by decide) (by omega) (by omega) hs fk_RX5_9 rfl rfl (by decide +kernel) (fun _ => rfl) (fun _ => rfl) ?_
  refine nw_aload_n F dc_X5_init_12 rfl ?_
  refine nw_iconst (v := 0) F dc_X5_init_13 rfl ?_
  refine nx_put (ci := 5) (j := 1) (ty := .int) F dc_X5_init_14 rfl (by decide) (by omega) (by omega) hs fk_RX5_15 rfl (by decide +kernel) rfl rfl ?_
  refine nw_aload_n F dc_X5_init_17 rfl ?_
  refine nw_iconst (v := 0) F dc_X5_init_18 rfl ?_
  refine nx_put (ci := 5) (j := 2) (ty := .int) F dc_X5_init_19 rfl (by decide) (by omega) (by omega) hs fk_RX5_19 rfl (by decide +kernel) rfl rfl ?_
  exact ret _ _ dc_X5_init_22
