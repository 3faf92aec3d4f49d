/-! ===== the constructor of the search ===== -/
theorem flC_lt {b q j : Nat} {c : Nat → Nat → Value} (h : q < b) : ∀ i, flC b c i q j = c q j
  | 0 => by
    show nput (nput (nset c (b + 1) _) b 0 _) b 1 _ q j = _
    rw [nput_ne (Or.inl (by omega)), nput_ne (Or.inl (by omega)), nset_ne (by omega)]
  | i + 1 => by
    show nput (nset (flC b c i) (b + 2 + i) _) (b + 1) i _ q j = _
    rw [nput_ne (Or.inl (by omega)), nset_ne (by omega)]
    exact flC_lt h i
def psA (b : Nat) (c : Nat → Nat → Value) : Nat → Nat → Value := nput (nset (nput (liC (nset c (b + 1) (fun j => defaultValue (tyX2 j))) (b + 1)) b 0 (.ref (b + 1))) (b + 2) (fun _ => .null)) b 1 (.ref (b + 2))
def psC (b : Nat) (c : Nat → Nat → Value) : Nat → Nat → Nat → Value
  | 0 => psA b c
  | i + 1 => nput (flC (b + 3 + 10 * i) (nset (psC b c i) (b + 3 + 10 * i) (fun j => defaultValue (tyX1 j))) 8) (b + 2) i (.ref (b + 3 + 10 * i))
theorem psC_b1 (b : Nat) (c : Nat → Nat → Value) : ∀ i, psC b c i b 1 = .ref (b + 2)
  | 0 => nput_self _ _ _ _
  | i + 1 => by
    show nput _ (b + 2) i _ b 1 = _
    rw [nput_ne (Or.inl (by omega)), flC_lt (by omega), nset_ne (by omega)]
    exact psC_b1 b c i
def isPs (b : Nat) : Prop := b + 133 ≤ 202 ∧ tw_sh b = (3, 5) ∧ tw_sh (b + 1) = (2, 5) ∧ tw_sh (b + 2) = (12, 13) ∧ ∀ i, i < 13 → isFl (b + 3 + 10 * i)
theorem nP_loop {K : tw_K} {b : Nat} {c : Nat → Nat → Value} (hE : nw_AE K.2.2.2) (F : tw_FN K mX3_init 3) (h1 : K.2.2.1.1 = 132) (h2 : K.2.2.1.2.1 = 876) (hb : isPs b) (ret : ∀ pc ls, decode mX3_init.2.1 pc = .ok (.return_, 1) → tw_N K pc ls [] (b + 133, psC b c 13, 132, 876)) : ∀ d i, i + d = 13 → tw_N K 26 [.ref b, .int (nI i)] [] (b + 3 + 10 * i, psC b c i, 2 + 10 * i, 18 + 66 * i) := by
  obtain ⟨hn, hs, hs1, hs2, hf⟩ := hb
  intro d
  induction d with
  | zero =>
    intro i hi
    have e : i = 13 := by omega
    subst e
    refine nw_iload_n F dc_X3_init_26 rfl ?_
    refine nw_bipush (v := 12) F dc_X3_init_27 rfl ?_
    refine nw_icmp_gt (tgt := 51) F dc_X3_init_29 rfl (fun _ => ?_) (fun h => absurd (by decide) h)
    exact ret _ _ dc_X3_init_51
  | succ d ih =>
    intro i hi
    obtain ⟨g1, g2, g3, g4⟩ := hf i (by omega)
    refine nw_iload_n F dc_X3_init_26 rfl ?_
    refine nw_bipush (v := 12) F dc_X3_init_27 rfl ?_
    refine nw_icmp_gt (tgt := 51) F dc_X3_init_29 rfl (fun h => absurd h (nI_nlt (a := 12) (b := i) (by omega) (by decide))) (fun _ => ?_)
    refine nw_aload_n F dc_X3_init_32 rfl ?_
    refine nx_getR (ci := 3) (j := 1) (r := b + 2) F dc_X3_init_33 rfl (by decide) (by omega) (by omega) hs fk_RX3_20 (psC_b1 b c i) ?_
    refine nw_iload_n F dc_X3_init_36 rfl ?_
    refine nx_new (ci := 1) F tyX1 dc_X3_init_37 rfl tyX1_ok g2 (by omega) cl_RX3_18 is_1 in_1 (by omega) (by show 18 + 66 * i + 2 ≤ _; omega) ?_
    refine nw_dup F dc_X3_init_40 rfl ?_
    refine nx_call (M' := mX1_init) F dc_X3_init_41 ic_1 in_1 ii_1 ⟨by decide +kernel, by decide +kernel, by decide +kernel⟩ rfl rfl (by decide) mi_RX3_24 (by decide) (Nat.le_of_ble_eq_true rfl) (by omega) (by show 18 + 66 * i + 2 + 64 ≤ _; omega) (n_Fleet (b := b + 3 + 10 * i) hE g1 g2 g3 g4) ?_
    refine nx_aast (t := 12) (ci := 1) (j := i) (N := 13) F dc_X3_init_44 (by omega) (by omega) (by omega) (by decide) hs2 rfl g2 (fun _ => rfl) rfl (by omega) (by decide) ?_
    refine nw_iinc (v := nI (i + 1)) F dc_X3_init_45 rfl (nI_1 i) (by decide) rfl ?_
    refine nw_goto (tgt := 26) F dc_X3_init_48 rfl ?_
    have h := ih (i + 1) (by omega)
    rw [show b + 3 + 10 * (i + 1) = b + 3 + 10 * i + 10 by omega, show 2 + 10 * (i + 1) = 2 + 10 * i + 1 + 9 by omega, show 18 + 66 * (i + 1) = 18 + 66 * i + 2 + 64 by omega] at h
    exact h
theorem n_Search {E : tw_E} (hE : nw_AE E) {b : Nat} {c : Nat → Nat → Value} (hb : isPs b) : tw_Cn E 3 132 876 mX3_init b (b + 1) (b + 133) c (psC b c 13) := by
  have hb' := hb
  obtain ⟨hn, hs, hs1, hs2, hf⟩ := hb
  refine nw_of hE (by decide) rfl rfl (by decide) (fun K hK hi h1 h2 F ret => ?_)
  subst hK
  refine nw_aload_n F dc_X3_init_0 rfl ?_
  refine nw_objInit F dc_X3_init_1 mo_RX3_3 o_i o_c (by decide) (by decide) ?_
  refine nw_aload_n F dc_X3_init_4 rfl ?_
  refine nx_new (ci := 2) F tyX2 dc_X3_init_5 rfl tyX2_ok hs1 (by omega) cl_RX3_9 is_2 in_2 (by omega) (by show 0 + 5 ≤ _; omega) ?_
  refine nw_dup F dc_X3_init_8 rfl ?_
  refine nx_callN (M' := mX2_init) F dc_X3_init_9 ic_2 in_2 ii_2 ⟨by decide +kernel, by decide +kernel, by decide +kernel⟩ rfl rfl (by decide) ni_RX3_11 (by decide) (Nat.le_of_ble_eq_true rfl) (by omega) (by show 0 + 5 + 0 ≤ _; omega) (n_Lights hE (by omega) (by omega) hs1) ?_
  refine nx_putF (ci := 3) (j := 0) (ty := .object "TwinLights$Lights") F hi dc_X3_init_12 rfl (by decide) (by omega) (by omega) hs fk_RX3_12 rfl rfl (by decide +kernel) (fun _ => rfl) (fun _ => rfl) ?_
  refine nw_aload_n F dc_X3_init_15 rfl ?_
  refine nw_bipush (v := 13) F dc_X3_init_16 rfl ?_
  refine nx_newq (t := 12) (N := 13) F dc_X3_init_18 cl_RX3_18 (by decide) (by decide) (fun _ => rfl) rfl (by decide) hs2 (by omega) (by omega) (by show 0 + 5 + 0 + 13 ≤ _; omega) ?_
  refine nx_putF (ci := 3) (j := 1) (ty := .array (.object "TwinLights$Fleet")) F hi dc_X3_init_21 rfl (by decide) (by omega) (by omega) hs fk_RX3_20 rfl rfl (by decide +kernel) (fun _ => rfl) (fun _ => rfl) ?_
  refine nw_iconst (v := 0) F dc_X3_init_24 rfl ?_
  refine nw_istore_n F dc_X3_init_25 (by decide) rfl ?_
  exact nP_loop (c := c) hE F h1 h2 hb' ret 13 0 rfl
