/-! ===== the constructor of a fleet ===== -/
section NX2
variable {K : tw_K} {M : Mt} {d : Nat} {pc : Nat} {ls st : List Value} {n cl sl : Nat} {c : Nat → Nat → Value}
theorem nx_callN (F : tw_FN K M d) {M' : Mt} {d' mc ms index k n' : Nat} {c' : Nat → Nat → Value} (hd : decode M.2.1 pc = .ok (.invokespecial index, 3)) (hcode : Cond.code M'.1 M'.2.1 M'.2.2.1 M'.2.2.2 ∈ tw_gT) (hini : Cond.initialized M'.1.cls ∈ tw_gT) (hins : Cond.instanceMethod M'.1 ∈ tw_gT) (hnm : M'.1.cls ≠ "java/lang/invoke/MethodHandle" ∧ M'.1.cls ≠ "java/lang/invoke/VarHandle" ∧ (parseMethodDescriptor M'.1.desc).map (fun d => d.parameters.length) = some 0) (hname : M'.1.name = "<init>") (hret : M'.2.2.2 = none) (hloc : M'.2.2.1 ≤ 45) (hw : (M.1.cls, index, M'.1) ∈ tw_nest) (hdd : d' < d) (hr : (st.map fun v => v.category).sum ≤ 8) (hcells : cl + mc ≤ K.2.2.1.1) (hslots : sl + ms ≤ K.2.2.1.2.1)
    (hC : tw_Cn K.2.2.2 d' mc ms M' k n n' c c') (kk : tw_N K (pc + 3) ls st (n', c', cl + mc, sl + ms)) : tw_N K pc ls (.ref k :: st) (n, c, cl, sl) := nw_callN (X := (n, c, cl, sl)) F hd hcode hini hins hnm hname hret hloc hw hdd hr hcells hslots hC kk
theorem nx_call (F : tw_FN K M d) {M' : Mt} {d' mc ms index k n' : Nat} {c' : Nat → Nat → Value} (hd : decode M.2.1 pc = .ok (.invokespecial index, 3)) (hcode : Cond.code M'.1 M'.2.1 M'.2.2.1 M'.2.2.2 ∈ tw_gT) (hini : Cond.initialized M'.1.cls ∈ tw_gT) (hins : Cond.instanceMethod M'.1 ∈ tw_gT) (hnm : M'.1.cls ≠ "java/lang/invoke/MethodHandle" ∧ M'.1.cls ≠ "java/lang/invoke/VarHandle" ∧ (parseMethodDescriptor M'.1.desc).map (fun d => d.parameters.length) = some 0) (hname : M'.1.name = "<init>") (hret : M'.2.2.2 = none) (hloc : M'.2.2.1 ≤ 45) (hw : Cond.methodLink M.1.cls index M'.1 ∈ tw_gT) (hdd : d' < d) (hr : (st.map fun v => v.category).sum ≤ 8) (hcells : cl + mc ≤ K.2.2.1.1) (hslots : sl + ms ≤ K.2.2.1.2.1)
    (hC : tw_Cn K.2.2.2 d' mc ms M' k n n' c c') (kk : tw_N K (pc + 3) ls st (n', c', cl + mc, sl + ms)) : tw_N K pc ls (.ref k :: st) (n, c, cl, sl) := nw_call (X := (n, c, cl, sl)) F hd hcode hini hins hnm hname hret hloc hw hdd hr hcells hslots hC kk
end NX2
def flA (b : Nat) (c : Nat → Nat → Value) : Nat → Nat → Value := nput (nput (nset c (b + 1) (fun _ => .null)) b 0 (.ref (b + 1))) b 1 (.int 0)
def flC (b : Nat) (c : Nat → Nat → Value) : Nat → Nat → Nat → Value
  | 0 => flA b c
  | i + 1 => nput (nset (flC b c i) (b + 2 + i) (fun j => defaultValue (tyX6 j))) (b + 1) i (.ref (b + 2 + i))
theorem nput_ne {c : Nat → Nat → Value} {k j q i : Nat} {v : Value} (h : q ≠ k ∨ i ≠ j) : nput c k j v q i = c q i := by
  unfold nput nset
  by_cases e : q = k
  · subst e
    rw [if_pos rfl, if_neg (by omega)]
  · rw [if_neg e]
theorem nput_self (c : Nat → Nat → Value) (k j : Nat) (v : Value) : nput c k j v k j = v := by
  unfold nput nset
  rw [if_pos rfl, if_pos rfl]
theorem nset_ne {c : Nat → Nat → Value} {k q : Nat} {f : Nat → Value} (h : q ≠ k) : nset c k f q = c q := if_neg h
theorem flC_b0 (b : Nat) (c : Nat → Nat → Value) : ∀ i, flC b c i b 0 = .ref (b + 1)
  | 0 => by
    show nput _ b 1 _ b 0 = _
    rw [nput_ne (Or.inr (by decide)), nput_self]
  | i + 1 => by
    show nput _ (b + 1) i _ b 0 = _
    rw [nput_ne (Or.inl (by omega)), nset_ne (by omega)]
    exact flC_b0 b c i
theorem nF_loop {K : tw_K} {b : Nat} {c : Nat → Nat → Value} (hE : nw_AE K.2.2.2) (F : tw_FN K mX1_init 2) (h1 : K.2.2.1.1 = 9) (h2 : K.2.2.1.2.1 = 64) (hn : b + 10 ≤ 202) (hs : tw_sh b = (1, 2)) (hs1 : tw_sh (b + 1) = (11, 8)) (hs2 : ∀ i, i < 8 → tw_sh (b + 2 + i) = (6, 7)) (ret : ∀ pc ls, decode mX1_init.2.1 pc = .ok (.return_, 1) → tw_N K pc ls [] (b + 10, flC b c 8, 9, 64)) : ∀ d i, i + d = 8 → tw_N K 20 [.ref b, .int (nI i)] [] (b + 2 + i, flC b c i, 1 + i, 8 + 7 * i) := by
  intro d
  induction d with
  | zero =>
    intro i hi
    have e : i = 8 := by omega
    subst e
    refine nw_iload_n F dc_X1_init_20 rfl ?_
    refine nw_bipush (v := 8) F dc_X1_init_21 rfl ?_
    refine nw_icmp_ge (tgt := 45) F dc_X1_init_23 rfl (fun _ => ?_) (fun h => absurd (by decide) h)
    exact ret _ _ dc_X1_init_45
  | succ d ih =>
    intro i hi
    refine nw_iload_n F dc_X1_init_20 rfl ?_
    refine nw_bipush (v := 8) F dc_X1_init_21 rfl ?_
    refine nw_icmp_ge (tgt := 45) F dc_X1_init_23 rfl (fun h => absurd h (nI_ge (a := i) (b := 8) (by omega) (by decide))) (fun _ => ?_)
    refine nw_aload_n F dc_X1_init_26 rfl ?_
    refine nx_getR (ci := 1) (j := 0) (r := b + 1) F dc_X1_init_27 rfl (by decide) (by omega) (by omega) hs fk_RX1_11 (flC_b0 b c i) ?_
    refine nw_iload_n F dc_X1_init_30 rfl ?_
    refine nx_new (ci := 6) F tyX6 dc_X1_init_31 rfl tyX6_ok (hs2 i (by omega)) (by omega) cl_RX1_9 is_6 in_6 (by omega) (by show 8 + 7 * i + 7 ≤ _; omega) ?_
    refine nw_dup F dc_X1_init_34 rfl ?_
    refine nx_callN (M' := mX6_init) F dc_X1_init_35 ic_6 in_6 ii_6 ⟨by decide +kernel, by decide +kernel, by decide +kernel⟩ rfl rfl (by decide) ni_RX1_21 (by decide) (Nat.le_of_ble_eq_true rfl) (by omega) (by show 8 + 7 * i + 7 + 0 ≤ _; omega) (n_Ship hE) ?_
    refine nx_aast (t := 11) (ci := 6) (j := i) (N := 8) F dc_X1_init_38 (by omega) (by omega) (by omega) (by decide) hs1 rfl (hs2 i (by omega)) (fun _ => rfl) rfl (by omega) (by decide) ?_
    refine nw_iinc (v := nI (i + 1)) F dc_X1_init_39 rfl (nI_1 i) (by decide) rfl ?_
    refine nw_goto (tgt := 20) F dc_X1_init_42 rfl ?_
    have h := ih (i + 1) (by omega)
    rw [show 1 + (i + 1) = 1 + i + 1 + 0 by omega, show 8 + 7 * (i + 1) = 8 + 7 * i + 7 + 0 by omega] at h
    exact h
theorem n_Fleet {E : tw_E} (hE : nw_AE E) {b : Nat} {c : Nat → Nat → Value} (hn : b + 10 ≤ 202) (hs : tw_sh b = (1, 2)) (hs1 : tw_sh (b + 1) = (11, 8)) (hs2 : ∀ i, i < 8 → tw_sh (b + 2 + i) = (6, 7)) : tw_Cn E 2 9 64 mX1_init b (b + 1) (b + 10) c (flC b c 8) := by
  refine nw_of hE (by decide) rfl rfl (by decide) (fun K hK hi h1 h2 F ret => ?_)
  subst hK
  refine nw_aload_n F dc_X1_init_0 rfl ?_
  refine nw_objInit F dc_X1_init_1 mo_RX1_3 o_i o_c (by decide) (by decide) ?_
  refine nw_aload_n F dc_X1_init_4 rfl ?_
  refine nw_bipush (v := 8) F dc_X1_init_5 rfl ?_
  refine nx_newq (t := 11) (N := 8) F dc_X1_init_7 cl_RX1_9 (by decide) (by decide) (fun _ => rfl) rfl (by decide) hs1 (by omega) (by omega) (by omega) ?_
  refine nx_putF (ci := 1) (j := 0) (ty := .array (.object "TwinLights$Ship")) F hi dc_X1_init_10 rfl (by decide) (by omega) (by omega) hs fk_RX1_11 rfl rfl (by decide +kernel) (fun _ => rfl) (fun _ => rfl) ?_
  refine nw_aload_n F dc_X1_init_13 rfl ?_
  refine nw_iconst (v := 0) F dc_X1_init_14 rfl ?_
  refine nx_put (ci := 1) (j := 1) (ty := .int) F dc_X1_init_15 rfl (by decide) (by omega) (by omega) hs fk_RX1_17 rfl (by decide +kernel) rfl rfl ?_
  refine nw_iconst (v := 0) F dc_X1_init_18 rfl ?_
  refine nw_istore_n F dc_X1_init_19 (by decide) rfl ?_
  exact nF_loop (c := c) hE F h1 h2 hn hs hs1 hs2 ret 8 0 rfl
