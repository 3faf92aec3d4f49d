/-! ===== the constructor of a sea ===== -/
def liC (c : Nat → Nat → Value) (k : Nat) : Nat → Nat → Value := nput (nput (nput (nput (nput c k 0 (.int 5)) k 1 (.int 4)) k 2 (.int 1)) k 3 (.int 0)) k 4 (.int 0)
def seA (b : Nat) (c : Nat → Nat → Value) : Nat → Nat → Value :=
  nput (nput (nset (nput (flC (b + 2) (nset (nput (liC (nset c (b + 1) (fun j => defaultValue (tyX2 j))) (b + 1)) b 0 (.ref (b + 1))) (b + 2) (fun j => defaultValue (tyX1 j))) 8) b 1 (.ref (b + 2))) (b + 12) (fun _ => .int 0)) b 2 (.ref (b + 12))) b 3 (.int 1)
def seC (b : Nat) (c : Nat → Nat → Value) : Nat → Nat → Nat → Value
  | 0 => seA b c
  | i + 1 => nput (seC b c i) (b + 12) i (.int (-1))
theorem seC_b2 (b : Nat) (c : Nat → Nat → Value) : ∀ i, seC b c i b 2 = .ref (b + 12)
  | 0 => by
    show nput _ b 3 _ b 2 = _
    rw [nput_ne (Or.inr (by decide)), nput_self]
  | i + 1 => by
    show nput _ (b + 12) i _ b 2 = _
    rw [nput_ne (Or.inl (by omega))]
    exact seC_b2 b c i
/-- where a fleet, a sea may stand -/
def isFl (b : Nat) : Prop := b + 10 ≤ 202 ∧ tw_sh b = (1, 2) ∧ tw_sh (b + 1) = (11, 8) ∧ ∀ i, i < 8 → tw_sh (b + 2 + i) = (6, 7)
def isSe (b : Nat) : Prop := b + 13 ≤ 202 ∧ tw_sh b = (4, 4) ∧ tw_sh (b + 1) = (2, 5) ∧ isFl (b + 2) ∧ tw_sh (b + 12) = (10, 10)
theorem nS_loop {K : tw_K} {b : Nat} {c : Nat → Nat → Value} (F : tw_FN K mX4_init 3) (hb : isSe b) (ret : ∀ pc ls, decode mX4_init.2.1 pc = .ok (.return_, 1) → tw_N K pc ls [] (b + 13, seC b c 10, 12, 81)) : ∀ d i, i + d = 10 → tw_N K 41 [.ref b, .int (nI i)] [] (b + 13, seC b c i, 12, 81) := by
  obtain ⟨hn, hs, hs1, hf, hs12⟩ := hb
  intro d
  induction d with
  | zero =>
    intro i hi
    have e : i = 10 := by omega
    subst e
    refine nw_iload_n F dc_X4_init_41 rfl ?_
    refine nw_bipush (v := 9) F dc_X4_init_42 rfl ?_
    refine nw_icmp_gt (tgt := 60) F dc_X4_init_44 rfl (fun _ => ?_) (fun h => absurd (by decide) h)
    exact ret _ _ dc_X4_init_60
  | succ d ih =>
    intro i hi
    refine nw_iload_n F dc_X4_init_41 rfl ?_
    refine nw_bipush (v := 9) F dc_X4_init_42 rfl ?_
    refine nw_icmp_gt (tgt := 60) F dc_X4_init_44 rfl (fun h => absurd h (nI_nlt (a := 9) (b := i) (by omega) (by decide))) (fun _ => ?_)
    refine nw_aload_n F dc_X4_init_47 rfl ?_
    refine nx_getR (ci := 4) (j := 2) (r := b + 12) F dc_X4_init_48 rfl (by decide) (by omega) hn hs fk_RX4_25 (seC_b2 b c i) ?_
    refine nw_iload_n F dc_X4_init_51 rfl ?_
    refine nw_iconst (v := -1) F dc_X4_init_52 rfl ?_
    refine nx_iast (j := i) (N := 10) F dc_X4_init_53 (by omega) hn hs12 rfl (by omega) (by decide) ?_
    refine nw_iinc (v := nI (i + 1)) F dc_X4_init_54 rfl (nI_1 i) (by decide) rfl ?_
    refine nw_goto (tgt := 41) F dc_X4_init_57 rfl ?_
    exact ih (i + 1) (by omega)
theorem n_Sea {E : tw_E} (hE : nw_AE E) {b : Nat} {c : Nat → Nat → Value} (hb : isSe b) : tw_Cn E 3 12 81 mX4_init b (b + 1) (b + 13) c (seC b c 10) := by
  have hb' := hb
  obtain ⟨hn, hs, hs1, ⟨f1, f2, f3, f4⟩, hs12⟩ := hb
  refine nw_of hE (by decide) rfl rfl (by decide) (fun K hK hi h1 h2 F ret => ?_)
  subst hK
  refine nw_aload_n F dc_X4_init_0 rfl ?_
  refine nw_objInit F dc_X4_init_1 mo_RX4_3 o_i o_c (by decide) (by decide) ?_
  refine nw_aload_n F dc_X4_init_4 rfl ?_
  refine nx_new (ci := 2) F tyX2 dc_X4_init_5 rfl tyX2_ok hs1 (by omega) cl_RX4_9 is_2 in_2 (by omega) (by show 0 + 5 ≤ _; omega) ?_
  refine nw_dup F dc_X4_init_8 rfl ?_
  refine nx_callN (M' := mX2_init) F dc_X4_init_9 ic_2 in_2 ii_2 ⟨by decide +kernel, by decide +kernel, by decide +kernel⟩ rfl rfl (by decide) ni_RX4_11 (by decide) (Nat.le_of_ble_eq_true rfl) (by omega) (by show 0 + 5 + 0 ≤ _; omega) (n_Lights hE (by omega) (by omega) hs1) ?_
  refine nx_putF (ci := 4) (j := 0) (ty := .object "TwinLights$Lights") F hi dc_X4_init_12 rfl (by decide) (by omega) (by omega) hs fk_RX4_12 rfl rfl (by decide +kernel) (fun _ => rfl) (fun _ => rfl) ?_
  refine nw_aload_n F dc_X4_init_15 rfl ?_
  refine nx_new (ci := 1) F tyX1 dc_X4_init_16 rfl tyX1_ok f2 (by omega) cl_RX4_18 is_1 in_1 (by omega) (by show 0 + 5 + 0 + 2 ≤ _; omega) ?_
  refine nw_dup F dc_X4_init_19 rfl ?_
  refine nx_call (M' := mX1_init) F dc_X4_init_20 ic_1 in_1 ii_1 ⟨by decide +kernel, by decide +kernel, by decide +kernel⟩ rfl rfl (by decide) mi_RX4_20 (by decide) (Nat.le_of_ble_eq_true rfl) (by omega) (by show 0 + 5 + 0 + 2 + 64 ≤ _; omega) (n_Fleet (b := b + 2) hE f1 f2 f3 f4) ?_
  refine nx_putF (ci := 4) (j := 1) (ty := .object "TwinLights$Fleet") F hi dc_X4_init_23 rfl (by decide) (by omega) (by omega) hs fk_RX4_21 rfl rfl (by decide +kernel) (fun _ => rfl) (fun _ => rfl) ?_
  refine nw_aload_n F dc_X4_init_26 rfl ?_
  refine nw_bipush (v := 10) F dc_X4_init_27 rfl ?_
  refine nx_newa (N := 10) F dc_X4_init_29 rfl (by decide) hs12 (by omega) (by omega) (by show 0 + 5 + 0 + 2 + 64 + 10 ≤ _; omega) ?_
  refine nx_putF (ci := 4) (j := 2) (ty := .array .int) F hi dc_X4_init_31 rfl (by decide) (by omega) (by omega) hs fk_RX4_25 rfl rfl (by decide +kernel) (fun _ => rfl) (fun _ => rfl) ?_
  refine nw_aload_n F dc_X4_init_34 rfl ?_
  refine nw_iconst (v := 1) F dc_X4_init_35 rfl ?_
  refine nx_put (ci := 4) (j := 3) (ty := .int) F dc_X4_init_36 rfl (by decide) (by omega) (by omega) hs fk_RX4_29 rfl (by decide +kernel) rfl rfl ?_
  refine nw_iconst (v := 0) F dc_X4_init_39 rfl ?_
  refine nw_istore_n F dc_X4_init_40 (by decide) rfl ?_
  exact nS_loop (c := c) F hb' ret 10 0 rfl
