theorem lk6 : ∀ {k : Nat}, tw_isK k 6 = true → ∀ j, tw_lk k j = 0 := by
  have h : ∀ k, k < 202 → (tw_sh k).1 = 6 → tw_lkL.getD k [] = [] := by decide +kernel
  intro k hk j
  unfold tw_lk
  rw [h k (isK_of hk).1 (isK_of hk).2]
  rfl
theorem lk2 : ∀ {k : Nat}, tw_isK k 2 = true → ∀ j, tw_lk k j = 0 := by
  have h : ∀ k, k < 202 → (tw_sh k).1 = 2 → tw_lkL.getD k [] = [] := by decide +kernel
  intro k hk j
  unfold tw_lk
  rw [h k (isK_of hk).1 (isK_of hk).2]
  rfl
def f_X8_within (v : Int32) (lo : Int32) (hi : Int32) (τ : tw_T) : Int32 := if v < lo then 0 else (if hi < v then 0 else 1)
theorem ct_X8_within {E : tw_E} {v : Int32} {lo : Int32} {hi : Int32}  {τ : tw_T} : tw_Ci E 1 mX8_within [.int v, .int lo, .int hi] τ (f_X8_within v lo hi τ) (τ) := by
  refine ct_of (by decide) (by simp [Value.category]) (Nat.le_of_ble_eq_true rfl) (fun K hE F => ?_)
  subst hE
  refine rw_iload_n F dc_X8_within_0 rfl ?_
  refine rw_iload_n F dc_X8_within_1 rfl ?_
  refine rw_icmp_lt (tgt := 14) F dc_X8_within_2 rfl (fun c1 => ?_) (fun c1 => ?_)
  · refine rw_iconst (v := 0) F dc_X8_within_14 rfl ?_
    refine rw_iret F dc_X8_within_15 rfl rfl ?_
    exact ⟨by first | rfl | (simp only [f_X8_within, if_pos c1]; done) | (simp only [f_X8_within, if_pos c1]; rfl), by first | rfl | (simp only [f_X8_within, if_pos c1]; done) | (simp only [f_X8_within, if_pos c1]; rfl)⟩
  · refine rw_iload_n F dc_X8_within_5 rfl ?_
    refine rw_iload_n F dc_X8_within_6 rfl ?_
    refine rw_icmp_gt (tgt := 14) F dc_X8_within_7 rfl (fun c2 => ?_) (fun c2 => ?_)
    · refine rw_iconst (v := 0) F dc_X8_within_14 rfl ?_
      refine rw_iret F dc_X8_within_15 rfl rfl ?_
      exact ⟨by first | rfl | (simp only [f_X8_within, if_neg c1, if_pos c2]; done) | (simp only [f_X8_within, if_neg c1, if_pos c2]; rfl), by first | rfl | (simp only [f_X8_within, if_neg c1, if_pos c2]; done) | (simp only [f_X8_within, if_neg c1, if_pos c2]; rfl)⟩
    · refine rw_iconst (v := 1) F dc_X8_within_10 rfl ?_
      refine rw_goto (tgt := 15) F dc_X8_within_11 rfl ?_
      refine rw_iret F dc_X8_within_15 rfl rfl ?_
      exact ⟨by first | rfl | (simp only [f_X8_within, if_neg c1, if_neg c2]; done) | (simp only [f_X8_within, if_neg c1, if_neg c2]; rfl), by first | rfl | (simp only [f_X8_within, if_neg c1, if_neg c2]; done) | (simp only [f_X8_within, if_neg c1, if_neg c2]; rfl)⟩
def f_J6_bitCount_0f7a4 (i : Int32) (τ : tw_T) : Int32 := (((((((i - (((i.toUInt32 >>> ((1 : Int32).toUInt32 &&& Int32.toUInt32 31)).toInt32) &&& 1431655765)) &&& 858993459) + ((((i - (((i.toUInt32 >>> ((1 : Int32).toUInt32 &&& Int32.toUInt32 31)).toInt32) &&& 1431655765)).toUInt32 >>> ((2 : Int32).toUInt32 &&& Int32.toUInt32 31)).toInt32) &&& 858993459)) + (((((i - (((i.toUInt32 >>> ((1 : Int32).toUInt32 &&& Int32.toUInt32 31)).toInt32) &&& 1431655765)) &&& 858993459) + ((((i - (((i.toUInt32 >>> ((1 : Int32).toUInt32 &&& Int32.toUInt32 31)).toInt32) &&& 1431655765)).toUInt32 >>> ((2 : Int32).toUInt32 &&& Int32.toUInt32 31)).toInt32) &&& 858993459)).toUInt32 >>> ((4 : Int32).toUInt32 &&& Int32.toUInt32 31)).toInt32)) &&& 252645135) + (((((((i - (((i.toUInt32 >>> ((1 : Int32).toUInt32 &&& Int32.toUInt32 31)).toInt32) &&& 1431655765)) &&& 858993459) + ((((i - (((i.toUInt32 >>> ((1 : Int32).toUInt32 &&& Int32.toUInt32 31)).toInt32) &&& 1431655765)).toUInt32 >>> ((2 : Int32).toUInt32 &&& Int32.toUInt32 31)).toInt32) &&& 858993459)) + (((((i - (((i.toUInt32 >>> ((1 : Int32).toUInt32 &&& Int32.toUInt32 31)).toInt32) &&& 1431655765)) &&& 858993459) + ((((i - (((i.toUInt32 >>> ((1 : Int32).toUInt32 &&& Int32.toUInt32 31)).toInt32) &&& 1431655765)).toUInt32 >>> ((2 : Int32).toUInt32 &&& Int32.toUInt32 31)).toInt32) &&& 858993459)).toUInt32 >>> ((4 : Int32).toUInt32 &&& Int32.toUInt32 31)).toInt32)) &&& 252645135).toUInt32 >>> ((8 : Int32).toUInt32 &&& Int32.toUInt32 31)).toInt32)) + ((((((((i - (((i.toUInt32 >>> ((1 : Int32).toUInt32 &&& Int32.toUInt32 31)).toInt32) &&& 1431655765)) &&& 858993459) + ((((i - (((i.toUInt32 >>> ((1 : Int32).toUInt32 &&& Int32.toUInt32 31)).toInt32) &&& 1431655765)).toUInt32 >>> ((2 : Int32).toUInt32 &&& Int32.toUInt32 31)).toInt32) &&& 858993459)) + (((((i - (((i.toUInt32 >>> ((1 : Int32).toUInt32 &&& Int32.toUInt32 31)).toInt32) &&& 1431655765)) &&& 858993459) + ((((i - (((i.toUInt32 >>> ((1 : Int32).toUInt32 &&& Int32.toUInt32 31)).toInt32) &&& 1431655765)).toUInt32 >>> ((2 : Int32).toUInt32 &&& Int32.toUInt32 31)).toInt32) &&& 858993459)).toUInt32 >>> ((4 : Int32).toUInt32 &&& Int32.toUInt32 31)).toInt32)) &&& 252645135) + (((((((i - (((i.toUInt32 >>> ((1 : Int32).toUInt32 &&& Int32.toUInt32 31)).toInt32) &&& 1431655765)) &&& 858993459) + ((((i - (((i.toUInt32 >>> ((1 : Int32).toUInt32 &&& Int32.toUInt32 31)).toInt32) &&& 1431655765)).toUInt32 >>> ((2 : Int32).toUInt32 &&& Int32.toUInt32 31)).toInt32) &&& 858993459)) + (((((i - (((i.toUInt32 >>> ((1 : Int32).toUInt32 &&& Int32.toUInt32 31)).toInt32) &&& 1431655765)) &&& 858993459) + ((((i - (((i.toUInt32 >>> ((1 : Int32).toUInt32 &&& Int32.toUInt32 31)).toInt32) &&& 1431655765)).toUInt32 >>> ((2 : Int32).toUInt32 &&& Int32.toUInt32 31)).toInt32) &&& 858993459)).toUInt32 >>> ((4 : Int32).toUInt32 &&& Int32.toUInt32 31)).toInt32)) &&& 252645135).toUInt32 >>> ((8 : Int32).toUInt32 &&& Int32.toUInt32 31)).toInt32)).toUInt32 >>> ((16 : Int32).toUInt32 &&& Int32.toUInt32 31)).toInt32)) &&& 63
theorem ct_J6_bitCount_0f7a4 {E : tw_E} {i : Int32}  {τ : tw_T} : tw_Ci E 1 mJ6_bitCount_0f7a4 [.int i] τ (f_J6_bitCount_0f7a4 i τ) (τ) := by
  refine ct_of (by decide) (by simp [Value.category]) (Nat.le_of_ble_eq_true rfl) (fun K hE F => ?_)
  subst hE
  refine rw_iload_n F dc_J6_bitCount_0f7a4_0 rfl ?_
  refine rw_iload_n F dc_J6_bitCount_0f7a4_1 rfl ?_
  refine rw_iconst (v := 1) F dc_J6_bitCount_0f7a4_2 rfl ?_
  refine rw_iushr F dc_J6_bitCount_0f7a4_3 ?_
  refine rw_ldcw F dc_J6_bitCount_0f7a4_4 kc_RJ6_265 ?_
  refine rw_iand F dc_J6_bitCount_0f7a4_7 ?_
  refine rw_isub F dc_J6_bitCount_0f7a4_8 ?_
  refine rw_istore_n F dc_J6_bitCount_0f7a4_9 (by decide) rfl ?_
  refine rw_iload_n F dc_J6_bitCount_0f7a4_10 rfl ?_
  refine rw_ldcw F dc_J6_bitCount_0f7a4_11 kc_RJ6_266 ?_
  refine rw_iand F dc_J6_bitCount_0f7a4_14 ?_
  refine rw_iload_n F dc_J6_bitCount_0f7a4_15 rfl ?_
  refine rw_iconst (v := 2) F dc_J6_bitCount_0f7a4_16 rfl ?_
  refine rw_iushr F dc_J6_bitCount_0f7a4_17 ?_
  refine rw_ldcw F dc_J6_bitCount_0f7a4_18 kc_RJ6_266 ?_
  refine rw_iand F dc_J6_bitCount_0f7a4_21 ?_
  refine rw_iadd F dc_J6_bitCount_0f7a4_22 ?_
  refine rw_istore_n F dc_J6_bitCount_0f7a4_23 (by decide) rfl ?_
  refine rw_iload_n F dc_J6_bitCount_0f7a4_24 rfl ?_
  refine rw_iload_n F dc_J6_bitCount_0f7a4_25 rfl ?_
  refine rw_iconst (v := 4) F dc_J6_bitCount_0f7a4_26 rfl ?_
  refine rw_iushr F dc_J6_bitCount_0f7a4_27 ?_
  refine rw_iadd F dc_J6_bitCount_0f7a4_28 ?_
  refine rw_ldcw F dc_J6_bitCount_0f7a4_29 kc_RJ6_267 ?_
  refine rw_iand F dc_J6_bitCount_0f7a4_32 ?_
  refine rw_istore_n F dc_J6_bitCount_0f7a4_33 (by decide) rfl ?_
  refine rw_iload_n F dc_J6_bitCount_0f7a4_34 rfl ?_
  refine rw_iload_n F dc_J6_bitCount_0f7a4_35 rfl ?_
  refine rw_bipush (v := 8) F dc_J6_bitCount_0f7a4_36 rfl ?_
  refine rw_iushr F dc_J6_bitCount_0f7a4_38 ?_
  refine rw_iadd F dc_J6_bitCount_0f7a4_39 ?_
  refine rw_istore_n F dc_J6_bitCount_0f7a4_40 (by decide) rfl ?_
  refine rw_iload_n F dc_J6_bitCount_0f7a4_41 rfl ?_
  refine rw_iload_n F dc_J6_bitCount_0f7a4_42 rfl ?_
  refine rw_bipush (v := 16) F dc_J6_bitCount_0f7a4_43 rfl ?_
  refine rw_iushr F dc_J6_bitCount_0f7a4_45 ?_
  refine rw_iadd F dc_J6_bitCount_0f7a4_46 ?_
  refine rw_istore_n F dc_J6_bitCount_0f7a4_47 (by decide) rfl ?_
  refine rw_iload_n F dc_J6_bitCount_0f7a4_48 rfl ?_
  refine rw_bipush (v := 63) F dc_J6_bitCount_0f7a4_49 rfl ?_
  refine rw_iand F dc_J6_bitCount_0f7a4_51 ?_
  refine rw_iret F dc_J6_bitCount_0f7a4_52 rfl rfl ?_
  exact ⟨by first | rfl | (simp only [f_J6_bitCount_0f7a4]; done) | (simp only [f_J6_bitCount_0f7a4]; rfl), by first | rfl | (simp only [f_J6_bitCount_0f7a4]; done) | (simp only [f_J6_bitCount_0f7a4]; rfl)⟩
def f_X6_lightsNear (k : Nat) (τ : tw_T) : Int32 := if 8 < (τ k 1) then (if 8 < (23 - (τ k 1)) then (0 ||| 0) else (0 ||| 2)) else (if 8 < (23 - (τ k 1)) then (1 ||| 0) else (1 ||| 2))
theorem ct_X6_lightsNear {E : tw_E} {k : Nat} (hk : tw_isK k 6 = true := by first | rfl | assumption) {τ : tw_T} : tw_Ci E 1 mX6_lightsNear [.ref k] τ (f_X6_lightsNear k τ) (τ) := by
  have hlk0 : tw_lk k 0 = 0 := lk6 hk 0
  have hlk1 : tw_lk k 1 = 0 := lk6 hk 1
  have hlk2 : tw_lk k 2 = 0 := lk6 hk 2
  have hlk3 : tw_lk k 3 = 0 := lk6 hk 3
  have hlk4 : tw_lk k 4 = 0 := lk6 hk 4
  have hlk5 : tw_lk k 5 = 0 := lk6 hk 5
  have hlk6 : tw_lk k 6 = 0 := lk6 hk 6
  refine ct_of (by decide) (by simp [Value.category]) (Nat.le_of_ble_eq_true rfl) (fun K hE F => ?_)
  subst hE
  refine rw_aload_n F dc_X6_lightsNear_0 rfl ?_
  refine rw_getI F dc_X6_lightsNear_1 fl_RX6_15 (by first | rfl | assumption) (by first | rfl | assumption) ?_
  refine rw_bipush (v := 8) F dc_X6_lightsNear_4 rfl ?_
  refine rw_icmp_gt (tgt := 13) F dc_X6_lightsNear_6 rfl (fun c1 => ?_) (fun c1 => ?_)
  · refine rw_iconst (v := 0) F dc_X6_lightsNear_13 rfl ?_
    refine rw_bipush (v := 23) F dc_X6_lightsNear_14 rfl ?_
    refine rw_aload_n F dc_X6_lightsNear_16 rfl ?_
    refine rw_getI F dc_X6_lightsNear_17 fl_RX6_15 (by first | rfl | assumption) (by first | rfl | assumption) ?_
    refine rw_isub F dc_X6_lightsNear_20 ?_
    refine rw_bipush (v := 8) F dc_X6_lightsNear_21 rfl ?_
    refine rw_icmp_gt (tgt := 30) F dc_X6_lightsNear_23 rfl (fun c2 => ?_) (fun c2 => ?_)
    · refine rw_iconst (v := 0) F dc_X6_lightsNear_30 rfl ?_
      refine rw_ior F dc_X6_lightsNear_31 ?_
      refine rw_iret F dc_X6_lightsNear_32 rfl rfl ?_
      exact ⟨by first | rfl | (simp only [f_X6_lightsNear, if_pos c1, if_pos c2]; done) | (simp only [f_X6_lightsNear, if_pos c1, if_pos c2]; rfl), by first | rfl | (simp only [f_X6_lightsNear, if_pos c1, if_pos c2]; done) | (simp only [f_X6_lightsNear, if_pos c1, if_pos c2]; rfl)⟩
    · refine rw_iconst (v := 2) F dc_X6_lightsNear_26 rfl ?_
      refine rw_goto (tgt := 31) F dc_X6_lightsNear_27 rfl ?_
      refine rw_ior F dc_X6_lightsNear_31 ?_
      refine rw_iret F dc_X6_lightsNear_32 rfl rfl ?_
      exact ⟨by first | rfl | (simp only [f_X6_lightsNear, if_pos c1, if_neg c2]; done) | (simp only [f_X6_lightsNear, if_pos c1, if_neg c2]; rfl), by first | rfl | (simp only [f_X6_lightsNear, if_pos c1, if_neg c2]; done) | (simp only [f_X6_lightsNear, if_pos c1, if_neg c2]; rfl)⟩
  · refine rw_iconst (v := 1) F dc_X6_lightsNear_9 rfl ?_
    refine rw_goto (tgt := 14) F dc_X6_lightsNear_10 rfl ?_
    refine rw_bipush (v := 23) F dc_X6_lightsNear_14 rfl ?_
    refine rw_aload_n F dc_X6_lightsNear_16 rfl ?_
    refine rw_getI F dc_X6_lightsNear_17 fl_RX6_15 (by first | rfl | assumption) (by first | rfl | assumption) ?_
    refine rw_isub F dc_X6_lightsNear_20 ?_
    refine rw_bipush (v := 8) F dc_X6_lightsNear_21 rfl ?_
    refine rw_icmp_gt (tgt := 30) F dc_X6_lightsNear_23 rfl (fun c3 => ?_) (fun c3 => ?_)
    · refine rw_iconst (v := 0) F dc_X6_lightsNear_30 rfl ?_
      refine rw_ior F dc_X6_lightsNear_31 ?_
      refine rw_iret F dc_X6_lightsNear_32 rfl rfl ?_
      exact ⟨by first | rfl | (simp only [f_X6_lightsNear, if_neg c1, if_pos c3]; done) | (simp only [f_X6_lightsNear, if_neg c1, if_pos c3]; rfl), by first | rfl | (simp only [f_X6_lightsNear, if_neg c1, if_pos c3]; done) | (simp only [f_X6_lightsNear, if_neg c1, if_pos c3]; rfl)⟩
    · refine rw_iconst (v := 2) F dc_X6_lightsNear_26 rfl ?_
      refine rw_goto (tgt := 31) F dc_X6_lightsNear_27 rfl ?_
      refine rw_ior F dc_X6_lightsNear_31 ?_
      refine rw_iret F dc_X6_lightsNear_32 rfl rfl ?_
      exact ⟨by first | rfl | (simp only [f_X6_lightsNear, if_neg c1, if_neg c3]; done) | (simp only [f_X6_lightsNear, if_neg c1, if_neg c3]; rfl), by first | rfl | (simp only [f_X6_lightsNear, if_neg c1, if_neg c3]; done) | (simp only [f_X6_lightsNear, if_neg c1, if_neg c3]; rfl)⟩
def f_X6_seen (k : Nat) (shown : Int32) (tick : Int32) (τ : tw_T) : Int32 := if (tick - tick / 2 * 2) = 0 then (if (τ k 0) = 1 then (shown &&& (f_X6_lightsNear k τ)) else (if (τ k 0) = 2 then shown else (if (τ k 0) = 3 then shown else (if (τ k 0) = 4 then (shown &&& 2) else (if (τ k 0) = 5 then (shown ^^^ 3) else (if (τ k 0) = 6 then (if ((τ k 1) - (τ k 1) / 2 * 2) = 0 then shown else (shown &&& (f_X6_lightsNear k τ))) else shown)))))) else (if (τ k 0) = 1 then (shown &&& (f_X6_lightsNear k τ)) else (if (τ k 0) = 2 then 0 else (if (τ k 0) = 3 then (if 1 < (τ k 3) then 0 else shown) else (if (τ k 0) = 4 then (shown &&& 2) else (if (τ k 0) = 5 then (shown ^^^ 3) else (if (τ k 0) = 6 then (if ((τ k 1) - (τ k 1) / 2 * 2) = 0 then shown else (shown &&& (f_X6_lightsNear k τ))) else shown))))))
theorem ct_X6_seen {E : tw_E} {k : Nat} {shown : Int32} {tick : Int32} (hk : tw_isK k 6 = true := by first | rfl | assumption) {τ : tw_T} : tw_Ci E 2 mX6_seen [.ref k, .int shown, .int tick] τ (f_X6_seen k shown tick τ) (τ) := by
  have hlk0 : tw_lk k 0 = 0 := lk6 hk 0
  have hlk1 : tw_lk k 1 = 0 := lk6 hk 1
  have hlk2 : tw_lk k 2 = 0 := lk6 hk 2
  have hlk3 : tw_lk k 3 = 0 := lk6 hk 3
  have hlk4 : tw_lk k 4 = 0 := lk6 hk 4
  have hlk5 : tw_lk k 5 = 0 := lk6 hk 5
  have hlk6 : tw_lk k 6 = 0 := lk6 hk 6
  refine ct_of (by decide) (by simp [Value.category]) (Nat.le_of_ble_eq_true rfl) (fun K hE F => ?_)
  subst hE
  refine rw_iload_n F dc_X6_seen_0 rfl ?_
  refine rw_iconst (v := 2) F dc_X6_seen_1 rfl ?_
  refine rw_irem F dc_X6_seen_2 (by decide) ?_
  refine rw_if_ne (tgt := 10) F dc_X6_seen_3 rfl (fun c1 => ?_) (fun c1 => ?_)
  · refine rw_iconst (v := 0) F dc_X6_seen_10 rfl ?_
    refine rw_istore_n F dc_X6_seen_11 (by decide) rfl ?_
    refine rw_aload_n F dc_X6_seen_12 rfl ?_
    refine rw_getI F dc_X6_seen_13 fl_RX6_9 (by first | rfl | assumption) (by first | rfl | assumption) ?_
    refine rw_tswc (1) 0 56 F dc_X6_seen_16 rfl rfl (by decide) (by decide) (fun c2_1 => ?_) (fun c2_1 => ?_)
    · refine rw_iload_n F dc_X6_seen_56 rfl ?_
      refine rw_aload_n F dc_X6_seen_57 rfl ?_
      refine rw_cVi F [] dc_X6_seen_58 mv_X6_lightsNear ml_RX6_37 (by decide) (rc_6 (by first | rfl | assumption)) rfl rfl (Nat.le_of_ble_eq_true rfl) ct_X6_lightsNear ?_
      refine rw_iand F dc_X6_seen_61 ?_
      refine rw_iret F dc_X6_seen_62 rfl rfl ?_
      exact ⟨by first | rfl | (simp only [f_X6_seen, if_neg c1, if_pos c2_1]; done) | (simp only [f_X6_seen, if_neg c1, if_pos c2_1]; rfl), by first | rfl | (simp only [f_X6_seen, if_neg c1, if_pos c2_1]; done) | (simp only [f_X6_seen, if_neg c1, if_pos c2_1]; rfl)⟩
    refine rw_tswc (2) 1 83 F dc_X6_seen_16 rfl rfl (by decide) (by decide) (fun c2_2 => ?_) (fun c2_2 => ?_)
    · refine rw_iload_n F dc_X6_seen_83 rfl ?_
      refine rw_if_eq (tgt := 91) F dc_X6_seen_84 rfl (fun c3 => ?_) (fun c3 => ?_)
      · refine rw_iconst (v := 0) F dc_X6_seen_91 rfl ?_
        refine rw_iret F dc_X6_seen_92 rfl rfl ?_
        exact ⟨by first | rfl | (simp only [f_X6_seen, if_neg c1, if_neg c2_1, if_pos c2_2]; done) | (simp only [f_X6_seen, if_neg c1, if_neg c2_1, if_pos c2_2]; rfl), by first | rfl | (simp only [f_X6_seen, if_neg c1, if_neg c2_1, if_pos c2_2]; done) | (simp only [f_X6_seen, if_neg c1, if_neg c2_1, if_pos c2_2]; rfl)⟩
      · exact absurd c3 (by decide)
    refine rw_tswc (3) 2 93 F dc_X6_seen_16 rfl rfl (by decide) (by decide) (fun c2_3 => ?_) (fun c2_3 => ?_)
    · refine rw_iload_n F dc_X6_seen_93 rfl ?_
      refine rw_if_ne (tgt := 105) F dc_X6_seen_94 rfl (fun c4 => ?_) (fun c4 => ?_)
      · exact absurd c4 (by decide)
      · refine rw_aload_n F dc_X6_seen_97 rfl ?_
        refine rw_getI F dc_X6_seen_98 fl_RX6_21 (by first | rfl | assumption) (by first | rfl | assumption) ?_
        refine rw_iconst (v := 1) F dc_X6_seen_101 rfl ?_
        refine rw_icmp_gt (tgt := 109) F dc_X6_seen_102 rfl (fun c5 => ?_) (fun c5 => ?_)
        · refine rw_iconst (v := 0) F dc_X6_seen_109 rfl ?_
          refine rw_iret F dc_X6_seen_110 rfl rfl ?_
          exact ⟨by first | rfl | (simp only [f_X6_seen, if_neg c1, if_neg c2_1, if_neg c2_2, if_pos c2_3, if_pos c5]; done) | (simp only [f_X6_seen, if_neg c1, if_neg c2_1, if_neg c2_2, if_pos c2_3, if_pos c5]; rfl), by first | rfl | (simp only [f_X6_seen, if_neg c1, if_neg c2_1, if_neg c2_2, if_pos c2_3, if_pos c5]; done) | (simp only [f_X6_seen, if_neg c1, if_neg c2_1, if_neg c2_2, if_pos c2_3, if_pos c5]; rfl)⟩
        · refine rw_iload_n F dc_X6_seen_105 rfl ?_
          refine rw_goto (tgt := 110) F dc_X6_seen_106 rfl ?_
          refine rw_iret F dc_X6_seen_110 rfl rfl ?_
          exact ⟨by first | rfl | (simp only [f_X6_seen, if_neg c1, if_neg c2_1, if_neg c2_2, if_pos c2_3, if_neg c5]; done) | (simp only [f_X6_seen, if_neg c1, if_neg c2_1, if_neg c2_2, if_pos c2_3, if_neg c5]; rfl), by first | rfl | (simp only [f_X6_seen, if_neg c1, if_neg c2_1, if_neg c2_2, if_pos c2_3, if_neg c5]; done) | (simp only [f_X6_seen, if_neg c1, if_neg c2_1, if_neg c2_2, if_pos c2_3, if_neg c5]; rfl)⟩
    refine rw_tswc (4) 3 111 F dc_X6_seen_16 rfl rfl (by decide) (by decide) (fun c2_4 => ?_) (fun c2_4 => ?_)
    · refine rw_iload_n F dc_X6_seen_111 rfl ?_
      refine rw_iconst (v := 2) F dc_X6_seen_112 rfl ?_
      refine rw_iand F dc_X6_seen_113 ?_
      refine rw_iret F dc_X6_seen_114 rfl rfl ?_
      exact ⟨by first | rfl | (simp only [f_X6_seen, if_neg c1, if_neg c2_1, if_neg c2_2, if_neg c2_3, if_pos c2_4]; done) | (simp only [f_X6_seen, if_neg c1, if_neg c2_1, if_neg c2_2, if_neg c2_3, if_pos c2_4]; rfl), by first | rfl | (simp only [f_X6_seen, if_neg c1, if_neg c2_1, if_neg c2_2, if_neg c2_3, if_pos c2_4]; done) | (simp only [f_X6_seen, if_neg c1, if_neg c2_1, if_neg c2_2, if_neg c2_3, if_pos c2_4]; rfl)⟩
    refine rw_tswc (5) 4 115 F dc_X6_seen_16 rfl rfl (by decide) (by decide) (fun c2_5 => ?_) (fun c2_5 => ?_)
    · refine rw_iload_n F dc_X6_seen_115 rfl ?_
      refine rw_iconst (v := 3) F dc_X6_seen_116 rfl ?_
      refine rw_ixor F dc_X6_seen_117 ?_
      refine rw_iret F dc_X6_seen_118 rfl rfl ?_
      exact ⟨by first | rfl | (simp only [f_X6_seen, if_neg c1, if_neg c2_1, if_neg c2_2, if_neg c2_3, if_neg c2_4, if_pos c2_5]; done) | (simp only [f_X6_seen, if_neg c1, if_neg c2_1, if_neg c2_2, if_neg c2_3, if_neg c2_4, if_pos c2_5]; rfl), by first | rfl | (simp only [f_X6_seen, if_neg c1, if_neg c2_1, if_neg c2_2, if_neg c2_3, if_neg c2_4, if_pos c2_5]; done) | (simp only [f_X6_seen, if_neg c1, if_neg c2_1, if_neg c2_2, if_neg c2_3, if_neg c2_4, if_pos c2_5]; rfl)⟩
    refine rw_tswc (6) 5 63 F dc_X6_seen_16 rfl rfl (by decide) (by decide) (fun c2_6 => ?_) (fun c2_6 => ?_)
    · refine rw_aload_n F dc_X6_seen_63 rfl ?_
      refine rw_getI F dc_X6_seen_64 fl_RX6_15 (by first | rfl | assumption) (by first | rfl | assumption) ?_
      refine rw_iconst (v := 2) F dc_X6_seen_67 rfl ?_
      refine rw_irem F dc_X6_seen_68 (by decide) ?_
      refine rw_if_ne (tgt := 76) F dc_X6_seen_69 rfl (fun c6 => ?_) (fun c6 => ?_)
      · refine rw_iload_n F dc_X6_seen_76 rfl ?_
        refine rw_aload_n F dc_X6_seen_77 rfl ?_
        refine rw_cVi F [] dc_X6_seen_78 mv_X6_lightsNear ml_RX6_37 (by decide) (rc_6 (by first | rfl | assumption)) rfl rfl (Nat.le_of_ble_eq_true rfl) ct_X6_lightsNear ?_
        refine rw_iand F dc_X6_seen_81 ?_
        refine rw_iret F dc_X6_seen_82 rfl rfl ?_
        exact ⟨by first | rfl | (simp only [f_X6_seen, if_neg c1, if_neg c2_1, if_neg c2_2, if_neg c2_3, if_neg c2_4, if_neg c2_5, if_pos c2_6, if_neg c6]; done) | (simp only [f_X6_seen, if_neg c1, if_neg c2_1, if_neg c2_2, if_neg c2_3, if_neg c2_4, if_neg c2_5, if_pos c2_6, if_neg c6]; rfl), by first | rfl | (simp only [f_X6_seen, if_neg c1, if_neg c2_1, if_neg c2_2, if_neg c2_3, if_neg c2_4, if_neg c2_5, if_pos c2_6, if_neg c6]; done) | (simp only [f_X6_seen, if_neg c1, if_neg c2_1, if_neg c2_2, if_neg c2_3, if_neg c2_4, if_neg c2_5, if_pos c2_6, if_neg c6]; rfl)⟩
      · refine rw_iload_n F dc_X6_seen_72 rfl ?_
        refine rw_goto (tgt := 82) F dc_X6_seen_73 rfl ?_
        refine rw_iret F dc_X6_seen_82 rfl rfl ?_
        exact ⟨by first | rfl | (simp only [f_X6_seen, if_neg c1, if_neg c2_1, if_neg c2_2, if_neg c2_3, if_neg c2_4, if_neg c2_5, if_pos c2_6, if_pos c6]; done) | (simp only [f_X6_seen, if_neg c1, if_neg c2_1, if_neg c2_2, if_neg c2_3, if_neg c2_4, if_neg c2_5, if_pos c2_6, if_pos c6]; rfl), by first | rfl | (simp only [f_X6_seen, if_neg c1, if_neg c2_1, if_neg c2_2, if_neg c2_3, if_neg c2_4, if_neg c2_5, if_pos c2_6, if_pos c6]; done) | (simp only [f_X6_seen, if_neg c1, if_neg c2_1, if_neg c2_2, if_neg c2_3, if_neg c2_4, if_neg c2_5, if_pos c2_6, if_pos c6]; rfl)⟩
    refine rw_tsw F dc_X6_seen_16 119 (Or.inl ⟨by have h0 := lv_neT c2_1 (a := 1) (by decide); have h1 := lv_neT c2_2 (a := 2) (by decide); have h2 := lv_neT c2_3 (a := 3) (by decide); have h3 := lv_neT c2_4 (a := 4) (by decide); have h4 := lv_neT c2_5 (a := 5) (by decide); have h5 := lv_neT c2_6 (a := 6) (by decide); omega, by decide⟩) ?_
    refine rw_iload_n F dc_X6_seen_119 rfl ?_
    refine rw_iret F dc_X6_seen_120 rfl rfl ?_
    exact ⟨by first | rfl | (simp only [f_X6_seen, if_neg c1, if_neg c2_1, if_neg c2_2, if_neg c2_3, if_neg c2_4, if_neg c2_5, if_neg c2_6]; done) | (simp only [f_X6_seen, if_neg c1, if_neg c2_1, if_neg c2_2, if_neg c2_3, if_neg c2_4, if_neg c2_5, if_neg c2_6]; rfl), by first | rfl | (simp only [f_X6_seen, if_neg c1, if_neg c2_1, if_neg c2_2, if_neg c2_3, if_neg c2_4, if_neg c2_5, if_neg c2_6]; done) | (simp only [f_X6_seen, if_neg c1, if_neg c2_1, if_neg c2_2, if_neg c2_3, if_neg c2_4, if_neg c2_5, if_neg c2_6]; rfl)⟩
  · refine rw_iconst (v := 1) F dc_X6_seen_6 rfl ?_
    refine rw_goto (tgt := 11) F dc_X6_seen_7 rfl ?_
    refine rw_istore_n F dc_X6_seen_11 (by decide) rfl ?_
    refine rw_aload_n F dc_X6_seen_12 rfl ?_
    refine rw_getI F dc_X6_seen_13 fl_RX6_9 (by first | rfl | assumption) (by first | rfl | assumption) ?_
    refine rw_tswc (1) 0 56 F dc_X6_seen_16 rfl rfl (by decide) (by decide) (fun c7_1 => ?_) (fun c7_1 => ?_)
    · refine rw_iload_n F dc_X6_seen_56 rfl ?_
      refine rw_aload_n F dc_X6_seen_57 rfl ?_
      refine rw_cVi F [] dc_X6_seen_58 mv_X6_lightsNear ml_RX6_37 (by decide) (rc_6 (by first | rfl | assumption)) rfl rfl (Nat.le_of_ble_eq_true rfl) ct_X6_lightsNear ?_
      refine rw_iand F dc_X6_seen_61 ?_
      refine rw_iret F dc_X6_seen_62 rfl rfl ?_
      exact ⟨by first | rfl | (simp only [f_X6_seen, if_pos c1, if_pos c7_1]; done) | (simp only [f_X6_seen, if_pos c1, if_pos c7_1]; rfl), by first | rfl | (simp only [f_X6_seen, if_pos c1, if_pos c7_1]; done) | (simp only [f_X6_seen, if_pos c1, if_pos c7_1]; rfl)⟩
    refine rw_tswc (2) 1 83 F dc_X6_seen_16 rfl rfl (by decide) (by decide) (fun c7_2 => ?_) (fun c7_2 => ?_)
    · refine rw_iload_n F dc_X6_seen_83 rfl ?_
      refine rw_if_eq (tgt := 91) F dc_X6_seen_84 rfl (fun c8 => ?_) (fun c8 => ?_)
      · exact absurd c8 (by decide)
      · refine rw_iload_n F dc_X6_seen_87 rfl ?_
        refine rw_goto (tgt := 92) F dc_X6_seen_88 rfl ?_
        refine rw_iret F dc_X6_seen_92 rfl rfl ?_
        exact ⟨by first | rfl | (simp only [f_X6_seen, if_pos c1, if_neg c7_1, if_pos c7_2]; done) | (simp only [f_X6_seen, if_pos c1, if_neg c7_1, if_pos c7_2]; rfl), by first | rfl | (simp only [f_X6_seen, if_pos c1, if_neg c7_1, if_pos c7_2]; done) | (simp only [f_X6_seen, if_pos c1, if_neg c7_1, if_pos c7_2]; rfl)⟩
    refine rw_tswc (3) 2 93 F dc_X6_seen_16 rfl rfl (by decide) (by decide) (fun c7_3 => ?_) (fun c7_3 => ?_)
    · refine rw_iload_n F dc_X6_seen_93 rfl ?_
      refine rw_if_ne (tgt := 105) F dc_X6_seen_94 rfl (fun c9 => ?_) (fun c9 => ?_)
      · refine rw_iload_n F dc_X6_seen_105 rfl ?_
        refine rw_goto (tgt := 110) F dc_X6_seen_106 rfl ?_
        refine rw_iret F dc_X6_seen_110 rfl rfl ?_
        exact ⟨by first | rfl | (simp only [f_X6_seen, if_pos c1, if_neg c7_1, if_neg c7_2, if_pos c7_3]; done) | (simp only [f_X6_seen, if_pos c1, if_neg c7_1, if_neg c7_2, if_pos c7_3]; rfl), by first | rfl | (simp only [f_X6_seen, if_pos c1, if_neg c7_1, if_neg c7_2, if_pos c7_3]; done) | (simp only [f_X6_seen, if_pos c1, if_neg c7_1, if_neg c7_2, if_pos c7_3]; rfl)⟩
      · exact absurd c9 (by decide)
    refine rw_tswc (4) 3 111 F dc_X6_seen_16 rfl rfl (by decide) (by decide) (fun c7_4 => ?_) (fun c7_4 => ?_)
    · refine rw_iload_n F dc_X6_seen_111 rfl ?_
      refine rw_iconst (v := 2) F dc_X6_seen_112 rfl ?_
      refine rw_iand F dc_X6_seen_113 ?_
      refine rw_iret F dc_X6_seen_114 rfl rfl ?_
      exact ⟨by first | rfl | (simp only [f_X6_seen, if_pos c1, if_neg c7_1, if_neg c7_2, if_neg c7_3, if_pos c7_4]; done) | (simp only [f_X6_seen, if_pos c1, if_neg c7_1, if_neg c7_2, if_neg c7_3, if_pos c7_4]; rfl), by first | rfl | (simp only [f_X6_seen, if_pos c1, if_neg c7_1, if_neg c7_2, if_neg c7_3, if_pos c7_4]; done) | (simp only [f_X6_seen, if_pos c1, if_neg c7_1, if_neg c7_2, if_neg c7_3, if_pos c7_4]; rfl)⟩
    refine rw_tswc (5) 4 115 F dc_X6_seen_16 rfl rfl (by decide) (by decide) (fun c7_5 => ?_) (fun c7_5 => ?_)
    · refine rw_iload_n F dc_X6_seen_115 rfl ?_
      refine rw_iconst (v := 3) F dc_X6_seen_116 rfl ?_
      refine rw_ixor F dc_X6_seen_117 ?_
      refine rw_iret F dc_X6_seen_118 rfl rfl ?_
      exact ⟨by first | rfl | (simp only [f_X6_seen, if_pos c1, if_neg c7_1, if_neg c7_2, if_neg c7_3, if_neg c7_4, if_pos c7_5]; done) | (simp only [f_X6_seen, if_pos c1, if_neg c7_1, if_neg c7_2, if_neg c7_3, if_neg c7_4, if_pos c7_5]; rfl), by first | rfl | (simp only [f_X6_seen, if_pos c1, if_neg c7_1, if_neg c7_2, if_neg c7_3, if_neg c7_4, if_pos c7_5]; done) | (simp only [f_X6_seen, if_pos c1, if_neg c7_1, if_neg c7_2, if_neg c7_3, if_neg c7_4, if_pos c7_5]; rfl)⟩
    refine rw_tswc (6) 5 63 F dc_X6_seen_16 rfl rfl (by decide) (by decide) (fun c7_6 => ?_) (fun c7_6 => ?_)
    · refine rw_aload_n F dc_X6_seen_63 rfl ?_
      refine rw_getI F dc_X6_seen_64 fl_RX6_15 (by first | rfl | assumption) (by first | rfl | assumption) ?_
      refine rw_iconst (v := 2) F dc_X6_seen_67 rfl ?_
      refine rw_irem F dc_X6_seen_68 (by decide) ?_
      refine rw_if_ne (tgt := 76) F dc_X6_seen_69 rfl (fun c10 => ?_) (fun c10 => ?_)
      · refine rw_iload_n F dc_X6_seen_76 rfl ?_
        refine rw_aload_n F dc_X6_seen_77 rfl ?_
        refine rw_cVi F [] dc_X6_seen_78 mv_X6_lightsNear ml_RX6_37 (by decide) (rc_6 (by first | rfl | assumption)) rfl rfl (Nat.le_of_ble_eq_true rfl) ct_X6_lightsNear ?_
        refine rw_iand F dc_X6_seen_81 ?_
        refine rw_iret F dc_X6_seen_82 rfl rfl ?_
        exact ⟨by first | rfl | (simp only [f_X6_seen, if_pos c1, if_neg c7_1, if_neg c7_2, if_neg c7_3, if_neg c7_4, if_neg c7_5, if_pos c7_6, if_neg c10]; done) | (simp only [f_X6_seen, if_pos c1, if_neg c7_1, if_neg c7_2, if_neg c7_3, if_neg c7_4, if_neg c7_5, if_pos c7_6, if_neg c10]; rfl), by first | rfl | (simp only [f_X6_seen, if_pos c1, if_neg c7_1, if_neg c7_2, if_neg c7_3, if_neg c7_4, if_neg c7_5, if_pos c7_6, if_neg c10]; done) | (simp only [f_X6_seen, if_pos c1, if_neg c7_1, if_neg c7_2, if_neg c7_3, if_neg c7_4, if_neg c7_5, if_pos c7_6, if_neg c10]; rfl)⟩
      · refine rw_iload_n F dc_X6_seen_72 rfl ?_
        refine rw_goto (tgt := 82) F dc_X6_seen_73 rfl ?_
        refine rw_iret F dc_X6_seen_82 rfl rfl ?_
        exact ⟨by first | rfl | (simp only [f_X6_seen, if_pos c1, if_neg c7_1, if_neg c7_2, if_neg c7_3, if_neg c7_4, if_neg c7_5, if_pos c7_6, if_pos c10]; done) | (simp only [f_X6_seen, if_pos c1, if_neg c7_1, if_neg c7_2, if_neg c7_3, if_neg c7_4, if_neg c7_5, if_pos c7_6, if_pos c10]; rfl), by first | rfl | (simp only [f_X6_seen, if_pos c1, if_neg c7_1, if_neg c7_2, if_neg c7_3, if_neg c7_4, if_neg c7_5, if_pos c7_6, if_pos c10]; done) | (simp only [f_X6_seen, if_pos c1, if_neg c7_1, if_neg c7_2, if_neg c7_3, if_neg c7_4, if_neg c7_5, if_pos c7_6, if_pos c10]; rfl)⟩
    refine rw_tsw F dc_X6_seen_16 119 (Or.inl ⟨by have h0 := lv_neT c7_1 (a := 1) (by decide); have h1 := lv_neT c7_2 (a := 2) (by decide); have h2 := lv_neT c7_3 (a := 3) (by decide); have h3 := lv_neT c7_4 (a := 4) (by decide); have h4 := lv_neT c7_5 (a := 5) (by decide); have h5 := lv_neT c7_6 (a := 6) (by decide); omega, by decide⟩) ?_
    refine rw_iload_n F dc_X6_seen_119 rfl ?_
    refine rw_iret F dc_X6_seen_120 rfl rfl ?_
    exact ⟨by first | rfl | (simp only [f_X6_seen, if_pos c1, if_neg c7_1, if_neg c7_2, if_neg c7_3, if_neg c7_4, if_neg c7_5, if_neg c7_6]; done) | (simp only [f_X6_seen, if_pos c1, if_neg c7_1, if_neg c7_2, if_neg c7_3, if_neg c7_4, if_neg c7_5, if_neg c7_6]; rfl), by first | rfl | (simp only [f_X6_seen, if_pos c1, if_neg c7_1, if_neg c7_2, if_neg c7_3, if_neg c7_4, if_neg c7_5, if_neg c7_6]; done) | (simp only [f_X6_seen, if_pos c1, if_neg c7_1, if_neg c7_2, if_neg c7_3, if_neg c7_4, if_neg c7_5, if_neg c7_6]; rfl)⟩
def f_X6_cellsToGo (k : Nat) (tick : Int32) (τ : tw_T) : Int32 := if (tick - tick / 2 * 2) = 0 then (if (τ k 3) ≤ 0 then (if (τ k 0) = 1 then 0 else (if (τ k 0) = 2 then ((τ k 3) + 1) else (if (τ k 0) = 3 then ((τ k 3) + 1) else (if (τ k 0) = 4 then (((τ k 3) + 1) + 2) else (if (τ k 0) = 5 then (τ k 3) else (if (τ k 0) = 6 then (2 * 0) else (τ k 3))))))) else (if (τ k 0) = 1 then 1 else (if (τ k 0) = 2 then ((τ k 3) + 1) else (if (τ k 0) = 3 then ((τ k 3) + 1) else (if (τ k 0) = 4 then (((τ k 3) + 1) + 2) else (if (τ k 0) = 5 then (τ k 3) else (if (τ k 0) = 6 then (2 * 1) else (τ k 3)))))))) else (if (τ k 3) ≤ 0 then (if (τ k 0) = 1 then 0 else (if (τ k 0) = 2 then ((τ k 3) + 1) else (if (τ k 0) = 3 then (τ k 3) else (if (τ k 0) = 4 then ((τ k 3) + 2) else (if (τ k 0) = 5 then (τ k 3) else (if (τ k 0) = 6 then (2 * 0) else (τ k 3))))))) else (if (τ k 0) = 1 then 1 else (if (τ k 0) = 2 then ((τ k 3) + 1) else (if (τ k 0) = 3 then (τ k 3) else (if (τ k 0) = 4 then ((τ k 3) + 2) else (if (τ k 0) = 5 then (τ k 3) else (if (τ k 0) = 6 then (2 * 1) else (τ k 3))))))))
theorem ct_X6_cellsToGo {E : tw_E} {k : Nat} {tick : Int32} (hk : tw_isK k 6 = true := by first | rfl | assumption) {τ : tw_T} : tw_Ci E 1 mX6_cellsToGo [.ref k, .int tick] τ (f_X6_cellsToGo k tick τ) (τ) := by
  have hlk0 : tw_lk k 0 = 0 := lk6 hk 0
  have hlk1 : tw_lk k 1 = 0 := lk6 hk 1
  have hlk2 : tw_lk k 2 = 0 := lk6 hk 2
  have hlk3 : tw_lk k 3 = 0 := lk6 hk 3
  have hlk4 : tw_lk k 4 = 0 := lk6 hk 4
  have hlk5 : tw_lk k 5 = 0 := lk6 hk 5
  have hlk6 : tw_lk k 6 = 0 := lk6 hk 6
  refine ct_of (by decide) (by simp [Value.category]) (Nat.le_of_ble_eq_true rfl) (fun K hE F => ?_)
  subst hE
  refine rw_iload_n F dc_X6_cellsToGo_0 rfl ?_
  refine rw_iconst (v := 2) F dc_X6_cellsToGo_1 rfl ?_
  refine rw_irem F dc_X6_cellsToGo_2 (by decide) ?_
  refine rw_if_ne (tgt := 15) F dc_X6_cellsToGo_3 rfl (fun c1 => ?_) (fun c1 => ?_)
  · refine rw_aload_n F dc_X6_cellsToGo_15 rfl ?_
    refine rw_getI F dc_X6_cellsToGo_16 fl_RX6_21 (by first | rfl | assumption) (by first | rfl | assumption) ?_
    refine rw_istore_n F dc_X6_cellsToGo_19 (by decide) rfl ?_
    refine rw_aload_n F dc_X6_cellsToGo_20 rfl ?_
    refine rw_getI F dc_X6_cellsToGo_21 fl_RX6_21 (by first | rfl | assumption) (by first | rfl | assumption) ?_
    refine rw_if_le (tgt := 31) F dc_X6_cellsToGo_24 rfl (fun c2 => ?_) (fun c2 => ?_)
    · refine rw_iconst (v := 0) F dc_X6_cellsToGo_31 rfl ?_
      refine rw_istore_n F dc_X6_cellsToGo_32 (by decide) rfl ?_
      refine rw_aload_n F dc_X6_cellsToGo_33 rfl ?_
      refine rw_getI F dc_X6_cellsToGo_34 fl_RX6_9 (by first | rfl | assumption) (by first | rfl | assumption) ?_
      refine rw_tswc (1) 0 76 F dc_X6_cellsToGo_37 rfl rfl (by decide) (by decide) (fun c3_1 => ?_) (fun c3_1 => ?_)
      · refine rw_iload_n F dc_X6_cellsToGo_76 rfl ?_
        refine rw_iret F dc_X6_cellsToGo_77 rfl rfl ?_
        exact ⟨by first | rfl | (simp only [f_X6_cellsToGo, if_neg c1, if_pos c2, if_pos c3_1]; done) | (simp only [f_X6_cellsToGo, if_neg c1, if_pos c2, if_pos c3_1]; rfl), by first | rfl | (simp only [f_X6_cellsToGo, if_neg c1, if_pos c2, if_pos c3_1]; done) | (simp only [f_X6_cellsToGo, if_neg c1, if_pos c2, if_pos c3_1]; rfl)⟩
      refine rw_tswc (2) 1 82 F dc_X6_cellsToGo_37 rfl rfl (by decide) (by decide) (fun c3_2 => ?_) (fun c3_2 => ?_)
      · refine rw_aload_n F dc_X6_cellsToGo_82 rfl ?_
        refine rw_getI F dc_X6_cellsToGo_83 fl_RX6_21 (by first | rfl | assumption) (by first | rfl | assumption) ?_
        refine rw_iconst (v := 1) F dc_X6_cellsToGo_86 rfl ?_
        refine rw_iadd F dc_X6_cellsToGo_87 ?_
        refine rw_iret F dc_X6_cellsToGo_88 rfl rfl ?_
        exact ⟨by first | rfl | (simp only [f_X6_cellsToGo, if_neg c1, if_pos c2, if_neg c3_1, if_pos c3_2]; done) | (simp only [f_X6_cellsToGo, if_neg c1, if_pos c2, if_neg c3_1, if_pos c3_2]; rfl), by first | rfl | (simp only [f_X6_cellsToGo, if_neg c1, if_pos c2, if_neg c3_1, if_pos c3_2]; done) | (simp only [f_X6_cellsToGo, if_neg c1, if_pos c2, if_neg c3_1, if_pos c3_2]; rfl)⟩
      refine rw_tswc (3) 2 89 F dc_X6_cellsToGo_37 rfl rfl (by decide) (by decide) (fun c3_3 => ?_) (fun c3_3 => ?_)
      · refine rw_iload_n F dc_X6_cellsToGo_89 rfl ?_
        refine rw_iret F dc_X6_cellsToGo_90 rfl rfl ?_
        exact ⟨by first | rfl | (simp only [f_X6_cellsToGo, if_neg c1, if_pos c2, if_neg c3_1, if_neg c3_2, if_pos c3_3]; done) | (simp only [f_X6_cellsToGo, if_neg c1, if_pos c2, if_neg c3_1, if_neg c3_2, if_pos c3_3]; rfl), by first | rfl | (simp only [f_X6_cellsToGo, if_neg c1, if_pos c2, if_neg c3_1, if_neg c3_2, if_pos c3_3]; done) | (simp only [f_X6_cellsToGo, if_neg c1, if_pos c2, if_neg c3_1, if_neg c3_2, if_pos c3_3]; rfl)⟩
      refine rw_tswc (4) 3 91 F dc_X6_cellsToGo_37 rfl rfl (by decide) (by decide) (fun c3_4 => ?_) (fun c3_4 => ?_)
      · refine rw_iload_n F dc_X6_cellsToGo_91 rfl ?_
        refine rw_iconst (v := 2) F dc_X6_cellsToGo_92 rfl ?_
        refine rw_iadd F dc_X6_cellsToGo_93 ?_
        refine rw_iret F dc_X6_cellsToGo_94 rfl rfl ?_
        exact ⟨by first | rfl | (simp only [f_X6_cellsToGo, if_neg c1, if_pos c2, if_neg c3_1, if_neg c3_2, if_neg c3_3, if_pos c3_4]; done) | (simp only [f_X6_cellsToGo, if_neg c1, if_pos c2, if_neg c3_1, if_neg c3_2, if_neg c3_3, if_pos c3_4]; rfl), by first | rfl | (simp only [f_X6_cellsToGo, if_neg c1, if_pos c2, if_neg c3_1, if_neg c3_2, if_neg c3_3, if_pos c3_4]; done) | (simp only [f_X6_cellsToGo, if_neg c1, if_pos c2, if_neg c3_1, if_neg c3_2, if_neg c3_3, if_pos c3_4]; rfl)⟩
      refine rw_tswc (5) 4 95 F dc_X6_cellsToGo_37 rfl rfl (by decide) (by decide) (fun c3_5 => ?_) (fun c3_5 => ?_)
      · refine rw_aload_n F dc_X6_cellsToGo_95 rfl ?_
        refine rw_getI F dc_X6_cellsToGo_96 fl_RX6_21 (by first | rfl | assumption) (by first | rfl | assumption) ?_
        refine rw_iret F dc_X6_cellsToGo_99 rfl rfl ?_
        exact ⟨by first | rfl | (simp only [f_X6_cellsToGo, if_neg c1, if_pos c2, if_neg c3_1, if_neg c3_2, if_neg c3_3, if_neg c3_4, if_pos c3_5]; done) | (simp only [f_X6_cellsToGo, if_neg c1, if_pos c2, if_neg c3_1, if_neg c3_2, if_neg c3_3, if_neg c3_4, if_pos c3_5]; rfl), by first | rfl | (simp only [f_X6_cellsToGo, if_neg c1, if_pos c2, if_neg c3_1, if_neg c3_2, if_neg c3_3, if_neg c3_4, if_pos c3_5]; done) | (simp only [f_X6_cellsToGo, if_neg c1, if_pos c2, if_neg c3_1, if_neg c3_2, if_neg c3_3, if_neg c3_4, if_pos c3_5]; rfl)⟩
      refine rw_tswc (6) 5 78 F dc_X6_cellsToGo_37 rfl rfl (by decide) (by decide) (fun c3_6 => ?_) (fun c3_6 => ?_)
      · refine rw_iconst (v := 2) F dc_X6_cellsToGo_78 rfl ?_
        refine rw_iload_n F dc_X6_cellsToGo_79 rfl ?_
        refine rw_imul F dc_X6_cellsToGo_80 ?_
        refine rw_iret F dc_X6_cellsToGo_81 rfl rfl ?_
        exact ⟨by first | rfl | (simp only [f_X6_cellsToGo, if_neg c1, if_pos c2, if_neg c3_1, if_neg c3_2, if_neg c3_3, if_neg c3_4, if_neg c3_5, if_pos c3_6]; done) | (simp only [f_X6_cellsToGo, if_neg c1, if_pos c2, if_neg c3_1, if_neg c3_2, if_neg c3_3, if_neg c3_4, if_neg c3_5, if_pos c3_6]; rfl), by first | rfl | (simp only [f_X6_cellsToGo, if_neg c1, if_pos c2, if_neg c3_1, if_neg c3_2, if_neg c3_3, if_neg c3_4, if_neg c3_5, if_pos c3_6]; done) | (simp only [f_X6_cellsToGo, if_neg c1, if_pos c2, if_neg c3_1, if_neg c3_2, if_neg c3_3, if_neg c3_4, if_neg c3_5, if_pos c3_6]; rfl)⟩
      refine rw_tsw F dc_X6_cellsToGo_37 95 (Or.inl ⟨by have h0 := lv_neT c3_1 (a := 1) (by decide); have h1 := lv_neT c3_2 (a := 2) (by decide); have h2 := lv_neT c3_3 (a := 3) (by decide); have h3 := lv_neT c3_4 (a := 4) (by decide); have h4 := lv_neT c3_5 (a := 5) (by decide); have h5 := lv_neT c3_6 (a := 6) (by decide); omega, by decide⟩) ?_
      refine rw_aload_n F dc_X6_cellsToGo_95 rfl ?_
      refine rw_getI F dc_X6_cellsToGo_96 fl_RX6_21 (by first | rfl | assumption) (by first | rfl | assumption) ?_
      refine rw_iret F dc_X6_cellsToGo_99 rfl rfl ?_
      exact ⟨by first | rfl | (simp only [f_X6_cellsToGo, if_neg c1, if_pos c2, if_neg c3_1, if_neg c3_2, if_neg c3_3, if_neg c3_4, if_neg c3_5, if_neg c3_6]; done) | (simp only [f_X6_cellsToGo, if_neg c1, if_pos c2, if_neg c3_1, if_neg c3_2, if_neg c3_3, if_neg c3_4, if_neg c3_5, if_neg c3_6]; rfl), by first | rfl | (simp only [f_X6_cellsToGo, if_neg c1, if_pos c2, if_neg c3_1, if_neg c3_2, if_neg c3_3, if_neg c3_4, if_neg c3_5, if_neg c3_6]; done) | (simp only [f_X6_cellsToGo, if_neg c1, if_pos c2, if_neg c3_1, if_neg c3_2, if_neg c3_3, if_neg c3_4, if_neg c3_5, if_neg c3_6]; rfl)⟩
    · refine rw_iconst (v := 1) F dc_X6_cellsToGo_27 rfl ?_
      refine rw_goto (tgt := 32) F dc_X6_cellsToGo_28 rfl ?_
      refine rw_istore_n F dc_X6_cellsToGo_32 (by decide) rfl ?_
      refine rw_aload_n F dc_X6_cellsToGo_33 rfl ?_
      refine rw_getI F dc_X6_cellsToGo_34 fl_RX6_9 (by first | rfl | assumption) (by first | rfl | assumption) ?_
      refine rw_tswc (1) 0 76 F dc_X6_cellsToGo_37 rfl rfl (by decide) (by decide) (fun c4_1 => ?_) (fun c4_1 => ?_)
      · refine rw_iload_n F dc_X6_cellsToGo_76 rfl ?_
        refine rw_iret F dc_X6_cellsToGo_77 rfl rfl ?_
        exact ⟨by first | rfl | (simp only [f_X6_cellsToGo, if_neg c1, if_neg c2, if_pos c4_1]; done) | (simp only [f_X6_cellsToGo, if_neg c1, if_neg c2, if_pos c4_1]; rfl), by first | rfl | (simp only [f_X6_cellsToGo, if_neg c1, if_neg c2, if_pos c4_1]; done) | (simp only [f_X6_cellsToGo, if_neg c1, if_neg c2, if_pos c4_1]; rfl)⟩
      refine rw_tswc (2) 1 82 F dc_X6_cellsToGo_37 rfl rfl (by decide) (by decide) (fun c4_2 => ?_) (fun c4_2 => ?_)
      · refine rw_aload_n F dc_X6_cellsToGo_82 rfl ?_
        refine rw_getI F dc_X6_cellsToGo_83 fl_RX6_21 (by first | rfl | assumption) (by first | rfl | assumption) ?_
        refine rw_iconst (v := 1) F dc_X6_cellsToGo_86 rfl ?_
        refine rw_iadd F dc_X6_cellsToGo_87 ?_
        refine rw_iret F dc_X6_cellsToGo_88 rfl rfl ?_
        exact ⟨by first | rfl | (simp only [f_X6_cellsToGo, if_neg c1, if_neg c2, if_neg c4_1, if_pos c4_2]; done) | (simp only [f_X6_cellsToGo, if_neg c1, if_neg c2, if_neg c4_1, if_pos c4_2]; rfl), by first | rfl | (simp only [f_X6_cellsToGo, if_neg c1, if_neg c2, if_neg c4_1, if_pos c4_2]; done) | (simp only [f_X6_cellsToGo, if_neg c1, if_neg c2, if_neg c4_1, if_pos c4_2]; rfl)⟩
      refine rw_tswc (3) 2 89 F dc_X6_cellsToGo_37 rfl rfl (by decide) (by decide) (fun c4_3 => ?_) (fun c4_3 => ?_)
      · refine rw_iload_n F dc_X6_cellsToGo_89 rfl ?_
        refine rw_iret F dc_X6_cellsToGo_90 rfl rfl ?_
        exact ⟨by first | rfl | (simp only [f_X6_cellsToGo, if_neg c1, if_neg c2, if_neg c4_1, if_neg c4_2, if_pos c4_3]; done) | (simp only [f_X6_cellsToGo, if_neg c1, if_neg c2, if_neg c4_1, if_neg c4_2, if_pos c4_3]; rfl), by first | rfl | (simp only [f_X6_cellsToGo, if_neg c1, if_neg c2, if_neg c4_1, if_neg c4_2, if_pos c4_3]; done) | (simp only [f_X6_cellsToGo, if_neg c1, if_neg c2, if_neg c4_1, if_neg c4_2, if_pos c4_3]; rfl)⟩
      refine rw_tswc (4) 3 91 F dc_X6_cellsToGo_37 rfl rfl (by decide) (by decide) (fun c4_4 => ?_) (fun c4_4 => ?_)
      · refine rw_iload_n F dc_X6_cellsToGo_91 rfl ?_
        refine rw_iconst (v := 2) F dc_X6_cellsToGo_92 rfl ?_
        refine rw_iadd F dc_X6_cellsToGo_93 ?_
        refine rw_iret F dc_X6_cellsToGo_94 rfl rfl ?_
        exact ⟨by first | rfl | (simp only [f_X6_cellsToGo, if_neg c1, if_neg c2, if_neg c4_1, if_neg c4_2, if_neg c4_3, if_pos c4_4]; done) | (simp only [f_X6_cellsToGo, if_neg c1, if_neg c2, if_neg c4_1, if_neg c4_2, if_neg c4_3, if_pos c4_4]; rfl), by first | rfl | (simp only [f_X6_cellsToGo, if_neg c1, if_neg c2, if_neg c4_1, if_neg c4_2, if_neg c4_3, if_pos c4_4]; done) | (simp only [f_X6_cellsToGo, if_neg c1, if_neg c2, if_neg c4_1, if_neg c4_2, if_neg c4_3, if_pos c4_4]; rfl)⟩
      refine rw_tswc (5) 4 95 F dc_X6_cellsToGo_37 rfl rfl (by decide) (by decide) (fun c4_5 => ?_) (fun c4_5 => ?_)
      · refine rw_aload_n F dc_X6_cellsToGo_95 rfl ?_
        refine rw_getI F dc_X6_cellsToGo_96 fl_RX6_21 (by first | rfl | assumption) (by first | rfl | assumption) ?_
        refine rw_iret F dc_X6_cellsToGo_99 rfl rfl ?_
        exact ⟨by first | rfl | (simp only [f_X6_cellsToGo, if_neg c1, if_neg c2, if_neg c4_1, if_neg c4_2, if_neg c4_3, if_neg c4_4, if_pos c4_5]; done) | (simp only [f_X6_cellsToGo, if_neg c1, if_neg c2, if_neg c4_1, if_neg c4_2, if_neg c4_3, if_neg c4_4, if_pos c4_5]; rfl), by first | rfl | (simp only [f_X6_cellsToGo, if_neg c1, if_neg c2, if_neg c4_1, if_neg c4_2, if_neg c4_3, if_neg c4_4, if_pos c4_5]; done) | (simp only [f_X6_cellsToGo, if_neg c1, if_neg c2, if_neg c4_1, if_neg c4_2, if_neg c4_3, if_neg c4_4, if_pos c4_5]; rfl)⟩
      refine rw_tswc (6) 5 78 F dc_X6_cellsToGo_37 rfl rfl (by decide) (by decide) (fun c4_6 => ?_) (fun c4_6 => ?_)
      · refine rw_iconst (v := 2) F dc_X6_cellsToGo_78 rfl ?_
        refine rw_iload_n F dc_X6_cellsToGo_79 rfl ?_
        refine rw_imul F dc_X6_cellsToGo_80 ?_
        refine rw_iret F dc_X6_cellsToGo_81 rfl rfl ?_
        exact ⟨by first | rfl | (simp only [f_X6_cellsToGo, if_neg c1, if_neg c2, if_neg c4_1, if_neg c4_2, if_neg c4_3, if_neg c4_4, if_neg c4_5, if_pos c4_6]; done) | (simp only [f_X6_cellsToGo, if_neg c1, if_neg c2, if_neg c4_1, if_neg c4_2, if_neg c4_3, if_neg c4_4, if_neg c4_5, if_pos c4_6]; rfl), by first | rfl | (simp only [f_X6_cellsToGo, if_neg c1, if_neg c2, if_neg c4_1, if_neg c4_2, if_neg c4_3, if_neg c4_4, if_neg c4_5, if_pos c4_6]; done) | (simp only [f_X6_cellsToGo, if_neg c1, if_neg c2, if_neg c4_1, if_neg c4_2, if_neg c4_3, if_neg c4_4, if_neg c4_5, if_pos c4_6]; rfl)⟩
      refine rw_tsw F dc_X6_cellsToGo_37 95 (Or.inl ⟨by have h0 := lv_neT c4_1 (a := 1) (by decide); have h1 := lv_neT c4_2 (a := 2) (by decide); have h2 := lv_neT c4_3 (a := 3) (by decide); have h3 := lv_neT c4_4 (a := 4) (by decide); have h4 := lv_neT c4_5 (a := 5) (by decide); have h5 := lv_neT c4_6 (a := 6) (by decide); omega, by decide⟩) ?_
      refine rw_aload_n F dc_X6_cellsToGo_95 rfl ?_
      refine rw_getI F dc_X6_cellsToGo_96 fl_RX6_21 (by first | rfl | assumption) (by first | rfl | assumption) ?_
      refine rw_iret F dc_X6_cellsToGo_99 rfl rfl ?_
      exact ⟨by first | rfl | (simp only [f_X6_cellsToGo, if_neg c1, if_neg c2, if_neg c4_1, if_neg c4_2, if_neg c4_3, if_neg c4_4, if_neg c4_5, if_neg c4_6]; done) | (simp only [f_X6_cellsToGo, if_neg c1, if_neg c2, if_neg c4_1, if_neg c4_2, if_neg c4_3, if_neg c4_4, if_neg c4_5, if_neg c4_6]; rfl), by first | rfl | (simp only [f_X6_cellsToGo, if_neg c1, if_neg c2, if_neg c4_1, if_neg c4_2, if_neg c4_3, if_neg c4_4, if_neg c4_5, if_neg c4_6]; done) | (simp only [f_X6_cellsToGo, if_neg c1, if_neg c2, if_neg c4_1, if_neg c4_2, if_neg c4_3, if_neg c4_4, if_neg c4_5, if_neg c4_6]; rfl)⟩
  · refine rw_aload_n F dc_X6_cellsToGo_6 rfl ?_
    refine rw_getI F dc_X6_cellsToGo_7 fl_RX6_21 (by first | rfl | assumption) (by first | rfl | assumption) ?_
    refine rw_iconst (v := 1) F dc_X6_cellsToGo_10 rfl ?_
    refine rw_iadd F dc_X6_cellsToGo_11 ?_
    refine rw_goto (tgt := 19) F dc_X6_cellsToGo_12 rfl ?_
    refine rw_istore_n F dc_X6_cellsToGo_19 (by decide) rfl ?_
    refine rw_aload_n F dc_X6_cellsToGo_20 rfl ?_
    refine rw_getI F dc_X6_cellsToGo_21 fl_RX6_21 (by first | rfl | assumption) (by first | rfl | assumption) ?_
    refine rw_if_le (tgt := 31) F dc_X6_cellsToGo_24 rfl (fun c5 => ?_) (fun c5 => ?_)
    · refine rw_iconst (v := 0) F dc_X6_cellsToGo_31 rfl ?_
      refine rw_istore_n F dc_X6_cellsToGo_32 (by decide) rfl ?_
      refine rw_aload_n F dc_X6_cellsToGo_33 rfl ?_
      refine rw_getI F dc_X6_cellsToGo_34 fl_RX6_9 (by first | rfl | assumption) (by first | rfl | assumption) ?_
      refine rw_tswc (1) 0 76 F dc_X6_cellsToGo_37 rfl rfl (by decide) (by decide) (fun c6_1 => ?_) (fun c6_1 => ?_)
      · refine rw_iload_n F dc_X6_cellsToGo_76 rfl ?_
        refine rw_iret F dc_X6_cellsToGo_77 rfl rfl ?_
        exact ⟨by first | rfl | (simp only [f_X6_cellsToGo, if_pos c1, if_pos c5, if_pos c6_1]; done) | (simp only [f_X6_cellsToGo, if_pos c1, if_pos c5, if_pos c6_1]; rfl), by first | rfl | (simp only [f_X6_cellsToGo, if_pos c1, if_pos c5, if_pos c6_1]; done) | (simp only [f_X6_cellsToGo, if_pos c1, if_pos c5, if_pos c6_1]; rfl)⟩
      refine rw_tswc (2) 1 82 F dc_X6_cellsToGo_37 rfl rfl (by decide) (by decide) (fun c6_2 => ?_) (fun c6_2 => ?_)
      · refine rw_aload_n F dc_X6_cellsToGo_82 rfl ?_
        refine rw_getI F dc_X6_cellsToGo_83 fl_RX6_21 (by first | rfl | assumption) (by first | rfl | assumption) ?_
        refine rw_iconst (v := 1) F dc_X6_cellsToGo_86 rfl ?_
        refine rw_iadd F dc_X6_cellsToGo_87 ?_
        refine rw_iret F dc_X6_cellsToGo_88 rfl rfl ?_
        exact ⟨by first | rfl | (simp only [f_X6_cellsToGo, if_pos c1, if_pos c5, if_neg c6_1, if_pos c6_2]; done) | (simp only [f_X6_cellsToGo, if_pos c1, if_pos c5, if_neg c6_1, if_pos c6_2]; rfl), by first | rfl | (simp only [f_X6_cellsToGo, if_pos c1, if_pos c5, if_neg c6_1, if_pos c6_2]; done) | (simp only [f_X6_cellsToGo, if_pos c1, if_pos c5, if_neg c6_1, if_pos c6_2]; rfl)⟩
      refine rw_tswc (3) 2 89 F dc_X6_cellsToGo_37 rfl rfl (by decide) (by decide) (fun c6_3 => ?_) (fun c6_3 => ?_)
      · refine rw_iload_n F dc_X6_cellsToGo_89 rfl ?_
        refine rw_iret F dc_X6_cellsToGo_90 rfl rfl ?_
        exact ⟨by first | rfl | (simp only [f_X6_cellsToGo, if_pos c1, if_pos c5, if_neg c6_1, if_neg c6_2, if_pos c6_3]; done) | (simp only [f_X6_cellsToGo, if_pos c1, if_pos c5, if_neg c6_1, if_neg c6_2, if_pos c6_3]; rfl), by first | rfl | (simp only [f_X6_cellsToGo, if_pos c1, if_pos c5, if_neg c6_1, if_neg c6_2, if_pos c6_3]; done) | (simp only [f_X6_cellsToGo, if_pos c1, if_pos c5, if_neg c6_1, if_neg c6_2, if_pos c6_3]; rfl)⟩
      refine rw_tswc (4) 3 91 F dc_X6_cellsToGo_37 rfl rfl (by decide) (by decide) (fun c6_4 => ?_) (fun c6_4 => ?_)
      · refine rw_iload_n F dc_X6_cellsToGo_91 rfl ?_
        refine rw_iconst (v := 2) F dc_X6_cellsToGo_92 rfl ?_
        refine rw_iadd F dc_X6_cellsToGo_93 ?_
        refine rw_iret F dc_X6_cellsToGo_94 rfl rfl ?_
        exact ⟨by first | rfl | (simp only [f_X6_cellsToGo, if_pos c1, if_pos c5, if_neg c6_1, if_neg c6_2, if_neg c6_3, if_pos c6_4]; done) | (simp only [f_X6_cellsToGo, if_pos c1, if_pos c5, if_neg c6_1, if_neg c6_2, if_neg c6_3, if_pos c6_4]; rfl), by first | rfl | (simp only [f_X6_cellsToGo, if_pos c1, if_pos c5, if_neg c6_1, if_neg c6_2, if_neg c6_3, if_pos c6_4]; done) | (simp only [f_X6_cellsToGo, if_pos c1, if_pos c5, if_neg c6_1, if_neg c6_2, if_neg c6_3, if_pos c6_4]; rfl)⟩
      refine rw_tswc (5) 4 95 F dc_X6_cellsToGo_37 rfl rfl (by decide) (by decide) (fun c6_5 => ?_) (fun c6_5 => ?_)
      · refine rw_aload_n F dc_X6_cellsToGo_95 rfl ?_
        refine rw_getI F dc_X6_cellsToGo_96 fl_RX6_21 (by first | rfl | assumption) (by first | rfl | assumption) ?_
        refine rw_iret F dc_X6_cellsToGo_99 rfl rfl ?_
        exact ⟨by first | rfl | (simp only [f_X6_cellsToGo, if_pos c1, if_pos c5, if_neg c6_1, if_neg c6_2, if_neg c6_3, if_neg c6_4, if_pos c6_5]; done) | (simp only [f_X6_cellsToGo, if_pos c1, if_pos c5, if_neg c6_1, if_neg c6_2, if_neg c6_3, if_neg c6_4, if_pos c6_5]; rfl), by first | rfl | (simp only [f_X6_cellsToGo, if_pos c1, if_pos c5, if_neg c6_1, if_neg c6_2, if_neg c6_3, if_neg c6_4, if_pos c6_5]; done) | (simp only [f_X6_cellsToGo, if_pos c1, if_pos c5, if_neg c6_1, if_neg c6_2, if_neg c6_3, if_neg c6_4, if_pos c6_5]; rfl)⟩
      refine rw_tswc (6) 5 78 F dc_X6_cellsToGo_37 rfl rfl (by decide) (by decide) (fun c6_6 => ?_) (fun c6_6 => ?_)
      · refine rw_iconst (v := 2) F dc_X6_cellsToGo_78 rfl ?_
        refine rw_iload_n F dc_X6_cellsToGo_79 rfl ?_
        refine rw_imul F dc_X6_cellsToGo_80 ?_
        refine rw_iret F dc_X6_cellsToGo_81 rfl rfl ?_
        exact ⟨by first | rfl | (simp only [f_X6_cellsToGo, if_pos c1, if_pos c5, if_neg c6_1, if_neg c6_2, if_neg c6_3, if_neg c6_4, if_neg c6_5, if_pos c6_6]; done) | (simp only [f_X6_cellsToGo, if_pos c1, if_pos c5, if_neg c6_1, if_neg c6_2, if_neg c6_3, if_neg c6_4, if_neg c6_5, if_pos c6_6]; rfl), by first | rfl | (simp only [f_X6_cellsToGo, if_pos c1, if_pos c5, if_neg c6_1, if_neg c6_2, if_neg c6_3, if_neg c6_4, if_neg c6_5, if_pos c6_6]; done) | (simp only [f_X6_cellsToGo, if_pos c1, if_pos c5, if_neg c6_1, if_neg c6_2, if_neg c6_3, if_neg c6_4, if_neg c6_5, if_pos c6_6]; rfl)⟩
      refine rw_tsw F dc_X6_cellsToGo_37 95 (Or.inl ⟨by have h0 := lv_neT c6_1 (a := 1) (by decide); have h1 := lv_neT c6_2 (a := 2) (by decide); have h2 := lv_neT c6_3 (a := 3) (by decide); have h3 := lv_neT c6_4 (a := 4) (by decide); have h4 := lv_neT c6_5 (a := 5) (by decide); have h5 := lv_neT c6_6 (a := 6) (by decide); omega, by decide⟩) ?_
      refine rw_aload_n F dc_X6_cellsToGo_95 rfl ?_
      refine rw_getI F dc_X6_cellsToGo_96 fl_RX6_21 (by first | rfl | assumption) (by first | rfl | assumption) ?_
      refine rw_iret F dc_X6_cellsToGo_99 rfl rfl ?_
      exact ⟨by first | rfl | (simp only [f_X6_cellsToGo, if_pos c1, if_pos c5, if_neg c6_1, if_neg c6_2, if_neg c6_3, if_neg c6_4, if_neg c6_5, if_neg c6_6]; done) | (simp only [f_X6_cellsToGo, if_pos c1, if_pos c5, if_neg c6_1, if_neg c6_2, if_neg c6_3, if_neg c6_4, if_neg c6_5, if_neg c6_6]; rfl), by first | rfl | (simp only [f_X6_cellsToGo, if_pos c1, if_pos c5, if_neg c6_1, if_neg c6_2, if_neg c6_3, if_neg c6_4, if_neg c6_5, if_neg c6_6]; done) | (simp only [f_X6_cellsToGo, if_pos c1, if_pos c5, if_neg c6_1, if_neg c6_2, if_neg c6_3, if_neg c6_4, if_neg c6_5, if_neg c6_6]; rfl)⟩
    · refine rw_iconst (v := 1) F dc_X6_cellsToGo_27 rfl ?_
      refine rw_goto (tgt := 32) F dc_X6_cellsToGo_28 rfl ?_
      refine rw_istore_n F dc_X6_cellsToGo_32 (by decide) rfl ?_
      refine rw_aload_n F dc_X6_cellsToGo_33 rfl ?_
      refine rw_getI F dc_X6_cellsToGo_34 fl_RX6_9 (by first | rfl | assumption) (by first | rfl | assumption) ?_
      refine rw_tswc (1) 0 76 F dc_X6_cellsToGo_37 rfl rfl (by decide) (by decide) (fun c7_1 => ?_) (fun c7_1 => ?_)
      · refine rw_iload_n F dc_X6_cellsToGo_76 rfl ?_
        refine rw_iret F dc_X6_cellsToGo_77 rfl rfl ?_
        exact ⟨by first | rfl | (simp only [f_X6_cellsToGo, if_pos c1, if_neg c5, if_pos c7_1]; done) | (simp only [f_X6_cellsToGo, if_pos c1, if_neg c5, if_pos c7_1]; rfl), by first | rfl | (simp only [f_X6_cellsToGo, if_pos c1, if_neg c5, if_pos c7_1]; done) | (simp only [f_X6_cellsToGo, if_pos c1, if_neg c5, if_pos c7_1]; rfl)⟩
      refine rw_tswc (2) 1 82 F dc_X6_cellsToGo_37 rfl rfl (by decide) (by decide) (fun c7_2 => ?_) (fun c7_2 => ?_)
      · refine rw_aload_n F dc_X6_cellsToGo_82 rfl ?_
        refine rw_getI F dc_X6_cellsToGo_83 fl_RX6_21 (by first | rfl | assumption) (by first | rfl | assumption) ?_
        refine rw_iconst (v := 1) F dc_X6_cellsToGo_86 rfl ?_
        refine rw_iadd F dc_X6_cellsToGo_87 ?_
        refine rw_iret F dc_X6_cellsToGo_88 rfl rfl ?_
        exact ⟨by first | rfl | (simp only [f_X6_cellsToGo, if_pos c1, if_neg c5, if_neg c7_1, if_pos c7_2]; done) | (simp only [f_X6_cellsToGo, if_pos c1, if_neg c5, if_neg c7_1, if_pos c7_2]; rfl), by first | rfl | (simp only [f_X6_cellsToGo, if_pos c1, if_neg c5, if_neg c7_1, if_pos c7_2]; done) | (simp only [f_X6_cellsToGo, if_pos c1, if_neg c5, if_neg c7_1, if_pos c7_2]; rfl)⟩
      refine rw_tswc (3) 2 89 F dc_X6_cellsToGo_37 rfl rfl (by decide) (by decide) (fun c7_3 => ?_) (fun c7_3 => ?_)
      · refine rw_iload_n F dc_X6_cellsToGo_89 rfl ?_
        refine rw_iret F dc_X6_cellsToGo_90 rfl rfl ?_
        exact ⟨by first | rfl | (simp only [f_X6_cellsToGo, if_pos c1, if_neg c5, if_neg c7_1, if_neg c7_2, if_pos c7_3]; done) | (simp only [f_X6_cellsToGo, if_pos c1, if_neg c5, if_neg c7_1, if_neg c7_2, if_pos c7_3]; rfl), by first | rfl | (simp only [f_X6_cellsToGo, if_pos c1, if_neg c5, if_neg c7_1, if_neg c7_2, if_pos c7_3]; done) | (simp only [f_X6_cellsToGo, if_pos c1, if_neg c5, if_neg c7_1, if_neg c7_2, if_pos c7_3]; rfl)⟩
      refine rw_tswc (4) 3 91 F dc_X6_cellsToGo_37 rfl rfl (by decide) (by decide) (fun c7_4 => ?_) (fun c7_4 => ?_)
      · refine rw_iload_n F dc_X6_cellsToGo_91 rfl ?_
        refine rw_iconst (v := 2) F dc_X6_cellsToGo_92 rfl ?_
        refine rw_iadd F dc_X6_cellsToGo_93 ?_
        refine rw_iret F dc_X6_cellsToGo_94 rfl rfl ?_
        exact ⟨by first | rfl | (simp only [f_X6_cellsToGo, if_pos c1, if_neg c5, if_neg c7_1, if_neg c7_2, if_neg c7_3, if_pos c7_4]; done) | (simp only [f_X6_cellsToGo, if_pos c1, if_neg c5, if_neg c7_1, if_neg c7_2, if_neg c7_3, if_pos c7_4]; rfl), by first | rfl | (simp only [f_X6_cellsToGo, if_pos c1, if_neg c5, if_neg c7_1, if_neg c7_2, if_neg c7_3, if_pos c7_4]; done) | (simp only [f_X6_cellsToGo, if_pos c1, if_neg c5, if_neg c7_1, if_neg c7_2, if_neg c7_3, if_pos c7_4]; rfl)⟩
      refine rw_tswc (5) 4 95 F dc_X6_cellsToGo_37 rfl rfl (by decide) (by decide) (fun c7_5 => ?_) (fun c7_5 => ?_)
      · refine rw_aload_n F dc_X6_cellsToGo_95 rfl ?_
        refine rw_getI F dc_X6_cellsToGo_96 fl_RX6_21 (by first | rfl | assumption) (by first | rfl | assumption) ?_
        refine rw_iret F dc_X6_cellsToGo_99 rfl rfl ?_
        exact ⟨by first | rfl | (simp only [f_X6_cellsToGo, if_pos c1, if_neg c5, if_neg c7_1, if_neg c7_2, if_neg c7_3, if_neg c7_4, if_pos c7_5]; done) | (simp only [f_X6_cellsToGo, if_pos c1, if_neg c5, if_neg c7_1, if_neg c7_2, if_neg c7_3, if_neg c7_4, if_pos c7_5]; rfl), by first | rfl | (simp only [f_X6_cellsToGo, if_pos c1, if_neg c5, if_neg c7_1, if_neg c7_2, if_neg c7_3, if_neg c7_4, if_pos c7_5]; done) | (simp only [f_X6_cellsToGo, if_pos c1, if_neg c5, if_neg c7_1, if_neg c7_2, if_neg c7_3, if_neg c7_4, if_pos c7_5]; rfl)⟩
      refine rw_tswc (6) 5 78 F dc_X6_cellsToGo_37 rfl rfl (by decide) (by decide) (fun c7_6 => ?_) (fun c7_6 => ?_)
      · refine rw_iconst (v := 2) F dc_X6_cellsToGo_78 rfl ?_
        refine rw_iload_n F dc_X6_cellsToGo_79 rfl ?_
        refine rw_imul F dc_X6_cellsToGo_80 ?_
        refine rw_iret F dc_X6_cellsToGo_81 rfl rfl ?_
        exact ⟨by first | rfl | (simp only [f_X6_cellsToGo, if_pos c1, if_neg c5, if_neg c7_1, if_neg c7_2, if_neg c7_3, if_neg c7_4, if_neg c7_5, if_pos c7_6]; done) | (simp only [f_X6_cellsToGo, if_pos c1, if_neg c5, if_neg c7_1, if_neg c7_2, if_neg c7_3, if_neg c7_4, if_neg c7_5, if_pos c7_6]; rfl), by first | rfl | (simp only [f_X6_cellsToGo, if_pos c1, if_neg c5, if_neg c7_1, if_neg c7_2, if_neg c7_3, if_neg c7_4, if_neg c7_5, if_pos c7_6]; done) | (simp only [f_X6_cellsToGo, if_pos c1, if_neg c5, if_neg c7_1, if_neg c7_2, if_neg c7_3, if_neg c7_4, if_neg c7_5, if_pos c7_6]; rfl)⟩
      refine rw_tsw F dc_X6_cellsToGo_37 95 (Or.inl ⟨by have h0 := lv_neT c7_1 (a := 1) (by decide); have h1 := lv_neT c7_2 (a := 2) (by decide); have h2 := lv_neT c7_3 (a := 3) (by decide); have h3 := lv_neT c7_4 (a := 4) (by decide); have h4 := lv_neT c7_5 (a := 5) (by decide); have h5 := lv_neT c7_6 (a := 6) (by decide); omega, by decide⟩) ?_
      refine rw_aload_n F dc_X6_cellsToGo_95 rfl ?_
      refine rw_getI F dc_X6_cellsToGo_96 fl_RX6_21 (by first | rfl | assumption) (by first | rfl | assumption) ?_
      refine rw_iret F dc_X6_cellsToGo_99 rfl rfl ?_
      exact ⟨by first | rfl | (simp only [f_X6_cellsToGo, if_pos c1, if_neg c5, if_neg c7_1, if_neg c7_2, if_neg c7_3, if_neg c7_4, if_neg c7_5, if_neg c7_6]; done) | (simp only [f_X6_cellsToGo, if_pos c1, if_neg c5, if_neg c7_1, if_neg c7_2, if_neg c7_3, if_neg c7_4, if_neg c7_5, if_neg c7_6]; rfl), by first | rfl | (simp only [f_X6_cellsToGo, if_pos c1, if_neg c5, if_neg c7_1, if_neg c7_2, if_neg c7_3, if_neg c7_4, if_neg c7_5, if_neg c7_6]; done) | (simp only [f_X6_cellsToGo, if_pos c1, if_neg c5, if_neg c7_1, if_neg c7_2, if_neg c7_3, if_neg c7_4, if_neg c7_5, if_neg c7_6]; rfl)⟩
def g_X6_renew (k : Nat) (nk : Int32) (nc : Int32) (τ : tw_T) : tw_T := tw_sr (tw_sr (tw_sr (tw_sr (tw_sr (tw_sr (tw_sr τ k (upd (τ k) 0 nk)) k (upd ((tw_sr τ k (upd (τ k) 0 nk)) k) 1 nc)) k (upd ((tw_sr (tw_sr τ k (upd (τ k) 0 nk)) k (upd ((tw_sr τ k (upd (τ k) 0 nk)) k) 1 nc)) k) 2 1)) k (upd ((tw_sr (tw_sr (tw_sr τ k (upd (τ k) 0 nk)) k (upd ((tw_sr τ k (upd (τ k) 0 nk)) k) 1 nc)) k (upd ((tw_sr (tw_sr τ k (upd (τ k) 0 nk)) k (upd ((tw_sr τ k (upd (τ k) 0 nk)) k) 1 nc)) k) 2 1)) k) 3 1)) k (upd ((tw_sr (tw_sr (tw_sr (tw_sr τ k (upd (τ k) 0 nk)) k (upd ((tw_sr τ k (upd (τ k) 0 nk)) k) 1 nc)) k (upd ((tw_sr (tw_sr τ k (upd (τ k) 0 nk)) k (upd ((tw_sr τ k (upd (τ k) 0 nk)) k) 1 nc)) k) 2 1)) k (upd ((tw_sr (tw_sr (tw_sr τ k (upd (τ k) 0 nk)) k (upd ((tw_sr τ k (upd (τ k) 0 nk)) k) 1 nc)) k (upd ((tw_sr (tw_sr τ k (upd (τ k) 0 nk)) k (upd ((tw_sr τ k (upd (τ k) 0 nk)) k) 1 nc)) k) 2 1)) k) 3 1)) k) 4 0)) k (upd ((tw_sr (tw_sr (tw_sr (tw_sr (tw_sr τ k (upd (τ k) 0 nk)) k (upd ((tw_sr τ k (upd (τ k) 0 nk)) k) 1 nc)) k (upd ((tw_sr (tw_sr τ k (upd (τ k) 0 nk)) k (upd ((tw_sr τ k (upd (τ k) 0 nk)) k) 1 nc)) k) 2 1)) k (upd ((tw_sr (tw_sr (tw_sr τ k (upd (τ k) 0 nk)) k (upd ((tw_sr τ k (upd (τ k) 0 nk)) k) 1 nc)) k (upd ((tw_sr (tw_sr τ k (upd (τ k) 0 nk)) k (upd ((tw_sr τ k (upd (τ k) 0 nk)) k) 1 nc)) k) 2 1)) k) 3 1)) k (upd ((tw_sr (tw_sr (tw_sr (tw_sr τ k (upd (τ k) 0 nk)) k (upd ((tw_sr τ k (upd (τ k) 0 nk)) k) 1 nc)) k (upd ((tw_sr (tw_sr τ k (upd (τ k) 0 nk)) k (upd ((tw_sr τ k (upd (τ k) 0 nk)) k) 1 nc)) k) 2 1)) k (upd ((tw_sr (tw_sr (tw_sr τ k (upd (τ k) 0 nk)) k (upd ((tw_sr τ k (upd (τ k) 0 nk)) k) 1 nc)) k (upd ((tw_sr (tw_sr τ k (upd (τ k) 0 nk)) k (upd ((tw_sr τ k (upd (τ k) 0 nk)) k) 1 nc)) k) 2 1)) k) 3 1)) k) 4 0)) k) 5 0)) k (upd ((tw_sr (tw_sr (tw_sr (tw_sr (tw_sr (tw_sr τ k (upd (τ k) 0 nk)) k (upd ((tw_sr τ k (upd (τ k) 0 nk)) k) 1 nc)) k (upd ((tw_sr (tw_sr τ k (upd (τ k) 0 nk)) k (upd ((tw_sr τ k (upd (τ k) 0 nk)) k) 1 nc)) k) 2 1)) k (upd ((tw_sr (tw_sr (tw_sr τ k (upd (τ k) 0 nk)) k (upd ((tw_sr τ k (upd (τ k) 0 nk)) k) 1 nc)) k (upd ((tw_sr (tw_sr τ k (upd (τ k) 0 nk)) k (upd ((tw_sr τ k (upd (τ k) 0 nk)) k) 1 nc)) k) 2 1)) k) 3 1)) k (upd ((tw_sr (tw_sr (tw_sr (tw_sr τ k (upd (τ k) 0 nk)) k (upd ((tw_sr τ k (upd (τ k) 0 nk)) k) 1 nc)) k (upd ((tw_sr (tw_sr τ k (upd (τ k) 0 nk)) k (upd ((tw_sr τ k (upd (τ k) 0 nk)) k) 1 nc)) k) 2 1)) k (upd ((tw_sr (tw_sr (tw_sr τ k (upd (τ k) 0 nk)) k (upd ((tw_sr τ k (upd (τ k) 0 nk)) k) 1 nc)) k (upd ((tw_sr (tw_sr τ k (upd (τ k) 0 nk)) k (upd ((tw_sr τ k (upd (τ k) 0 nk)) k) 1 nc)) k) 2 1)) k) 3 1)) k) 4 0)) k (upd ((tw_sr (tw_sr (tw_sr (tw_sr (tw_sr τ k (upd (τ k) 0 nk)) k (upd ((tw_sr τ k (upd (τ k) 0 nk)) k) 1 nc)) k (upd ((tw_sr (tw_sr τ k (upd (τ k) 0 nk)) k (upd ((tw_sr τ k (upd (τ k) 0 nk)) k) 1 nc)) k) 2 1)) k (upd ((tw_sr (tw_sr (tw_sr τ k (upd (τ k) 0 nk)) k (upd ((tw_sr τ k (upd (τ k) 0 nk)) k) 1 nc)) k (upd ((tw_sr (tw_sr τ k (upd (τ k) 0 nk)) k (upd ((tw_sr τ k (upd (τ k) 0 nk)) k) 1 nc)) k) 2 1)) k) 3 1)) k (upd ((tw_sr (tw_sr (tw_sr (tw_sr τ k (upd (τ k) 0 nk)) k (upd ((tw_sr τ k (upd (τ k) 0 nk)) k) 1 nc)) k (upd ((tw_sr (tw_sr τ k (upd (τ k) 0 nk)) k (upd ((tw_sr τ k (upd (τ k) 0 nk)) k) 1 nc)) k) 2 1)) k (upd ((tw_sr (tw_sr (tw_sr τ k (upd (τ k) 0 nk)) k (upd ((tw_sr τ k (upd (τ k) 0 nk)) k) 1 nc)) k (upd ((tw_sr (tw_sr τ k (upd (τ k) 0 nk)) k (upd ((tw_sr τ k (upd (τ k) 0 nk)) k) 1 nc)) k) 2 1)) k) 3 1)) k) 4 0)) k) 5 0)) k) 6 0)
theorem ct_X6_renew {E : tw_E} {k : Nat} {nk : Int32} {nc : Int32} (hk : tw_isK k 6 = true := by first | rfl | assumption) {τ : tw_T} : tw_Cv E 1 mX6_renew [.ref k, .int nk, .int nc] τ (g_X6_renew k nk nc τ) := by
  have hlk0 : tw_lk k 0 = 0 := lk6 hk 0
  have hlk1 : tw_lk k 1 = 0 := lk6 hk 1
  have hlk2 : tw_lk k 2 = 0 := lk6 hk 2
  have hlk3 : tw_lk k 3 = 0 := lk6 hk 3
  have hlk4 : tw_lk k 4 = 0 := lk6 hk 4
  have hlk5 : tw_lk k 5 = 0 := lk6 hk 5
  have hlk6 : tw_lk k 6 = 0 := lk6 hk 6
  refine ct_of (by decide) (by simp [Value.category]) (Nat.le_of_ble_eq_true rfl) (fun K hE F => ?_)
  subst hE
  refine rw_aload_n F dc_X6_renew_0 rfl ?_
  refine rw_iload_n F dc_X6_renew_1 rfl ?_
  refine rw_put F dc_X6_renew_2 pf_RX6_9 (by first | rfl | assumption) (by first | rfl | assumption) rfl rfl ?_
  refine rw_aload_n F dc_X6_renew_5 rfl ?_
  refine rw_iload_n F dc_X6_renew_6 rfl ?_
  refine rw_put F dc_X6_renew_7 pf_RX6_15 (by first | rfl | assumption) (by first | rfl | assumption) rfl rfl ?_
  refine rw_aload_n F dc_X6_renew_10 rfl ?_
  refine rw_iconst (v := 1) F dc_X6_renew_11 rfl ?_
  refine rw_put F dc_X6_renew_12 pf_RX6_18 (by first | rfl | assumption) (by first | rfl | assumption) rfl rfl ?_
  refine rw_aload_n F dc_X6_renew_15 rfl ?_
  refine rw_iconst (v := 1) F dc_X6_renew_16 rfl ?_
  refine rw_put F dc_X6_renew_17 pf_RX6_21 (by first | rfl | assumption) (by first | rfl | assumption) rfl rfl ?_
  refine rw_aload_n F dc_X6_renew_20 rfl ?_
  refine rw_iconst (v := 0) F dc_X6_renew_21 rfl ?_
  refine rw_put F dc_X6_renew_22 pf_RX6_24 (by first | rfl | assumption) (by first | rfl | assumption) rfl rfl ?_
  refine rw_aload_n F dc_X6_renew_25 rfl ?_
  refine rw_iconst (v := 0) F dc_X6_renew_26 rfl ?_
  refine rw_put F dc_X6_renew_27 pf_RX6_27 (by first | rfl | assumption) (by first | rfl | assumption) rfl rfl ?_
  refine rw_aload_n F dc_X6_renew_30 rfl ?_
  refine rw_iconst (v := 0) F dc_X6_renew_31 rfl ?_
  refine rw_put F dc_X6_renew_32 pf_RX6_30 (by first | rfl | assumption) (by first | rfl | assumption) rfl rfl ?_
  refine rw_vret F dc_X6_renew_35 rfl ?_
  exact ⟨rfl, by first | rfl | (simp only [g_X6_renew]; done) | (simp only [g_X6_renew]; rfl)⟩
def g_X6_take (k : Nat) (o : Nat) (τ : tw_T) : tw_T := tw_sr (tw_sr (tw_sr (tw_sr (tw_sr (tw_sr (tw_sr τ k (upd (τ k) 0 (τ o 0))) k (upd ((tw_sr τ k (upd (τ k) 0 (τ o 0))) k) 1 ((tw_sr τ k (upd (τ k) 0 (τ o 0))) o 1))) k (upd ((tw_sr (tw_sr τ k (upd (τ k) 0 (τ o 0))) k (upd ((tw_sr τ k (upd (τ k) 0 (τ o 0))) k) 1 ((tw_sr τ k (upd (τ k) 0 (τ o 0))) o 1))) k) 2 ((tw_sr (tw_sr τ k (upd (τ k) 0 (τ o 0))) k (upd ((tw_sr τ k (upd (τ k) 0 (τ o 0))) k) 1 ((tw_sr τ k (upd (τ k) 0 (τ o 0))) o 1))) o 2))) k (upd ((tw_sr (tw_sr (tw_sr τ k (upd (τ k) 0 (τ o 0))) k (upd ((tw_sr τ k (upd (τ k) 0 (τ o 0))) k) 1 ((tw_sr τ k (upd (τ k) 0 (τ o 0))) o 1))) k (upd ((tw_sr (tw_sr τ k (upd (τ k) 0 (τ o 0))) k (upd ((tw_sr τ k (upd (τ k) 0 (τ o 0))) k) 1 ((tw_sr τ k (upd (τ k) 0 (τ o 0))) o 1))) k) 2 ((tw_sr (tw_sr τ k (upd (τ k) 0 (τ o 0))) k (upd ((tw_sr τ k (upd (τ k) 0 (τ o 0))) k) 1 ((tw_sr τ k (upd (τ k) 0 (τ o 0))) o 1))) o 2))) k) 3 ((tw_sr (tw_sr (tw_sr τ k (upd (τ k) 0 (τ o 0))) k (upd ((tw_sr τ k (upd (τ k) 0 (τ o 0))) k) 1 ((tw_sr τ k (upd (τ k) 0 (τ o 0))) o 1))) k (upd ((tw_sr (tw_sr τ k (upd (τ k) 0 (τ o 0))) k (upd ((tw_sr τ k (upd (τ k) 0 (τ o 0))) k) 1 ((tw_sr τ k (upd (τ k) 0 (τ o 0))) o 1))) k) 2 ((tw_sr (tw_sr τ k (upd (τ k) 0 (τ o 0))) k (upd ((tw_sr τ k (upd (τ k) 0 (τ o 0))) k) 1 ((tw_sr τ k (upd (τ k) 0 (τ o 0))) o 1))) o 2))) o 3))) k (upd ((tw_sr (tw_sr (tw_sr (tw_sr τ k (upd (τ k) 0 (τ o 0))) k (upd ((tw_sr τ k (upd (τ k) 0 (τ o 0))) k) 1 ((tw_sr τ k (upd (τ k) 0 (τ o 0))) o 1))) k (upd ((tw_sr (tw_sr τ k (upd (τ k) 0 (τ o 0))) k (upd ((tw_sr τ k (upd (τ k) 0 (τ o 0))) k) 1 ((tw_sr τ k (upd (τ k) 0 (τ o 0))) o 1))) k) 2 ((tw_sr (tw_sr τ k (upd (τ k) 0 (τ o 0))) k (upd ((tw_sr τ k (upd (τ k) 0 (τ o 0))) k) 1 ((tw_sr τ k (upd (τ k) 0 (τ o 0))) o 1))) o 2))) k (upd ((tw_sr (tw_sr (tw_sr τ k (upd (τ k) 0 (τ o 0))) k (upd ((tw_sr τ k (upd (τ k) 0 (τ o 0))) k) 1 ((tw_sr τ k (upd (τ k) 0 (τ o 0))) o 1))) k (upd ((tw_sr (tw_sr τ k (upd (τ k) 0 (τ o 0))) k (upd ((tw_sr τ k (upd (τ k) 0 (τ o 0))) k) 1 ((tw_sr τ k (upd (τ k) 0 (τ o 0))) o 1))) k) 2 ((tw_sr (tw_sr τ k (upd (τ k) 0 (τ o 0))) k (upd ((tw_sr τ k (upd (τ k) 0 (τ o 0))) k) 1 ((tw_sr τ k (upd (τ k) 0 (τ o 0))) o 1))) o 2))) k) 3 ((tw_sr (tw_sr (tw_sr τ k (upd (τ k) 0 (τ o 0))) k (upd ((tw_sr τ k (upd (τ k) 0 (τ o 0))) k) 1 ((tw_sr τ k (upd (τ k) 0 (τ o 0))) o 1))) k (upd ((tw_sr (tw_sr τ k (upd (τ k) 0 (τ o 0))) k (upd ((tw_sr τ k (upd (τ k) 0 (τ o 0))) k) 1 ((tw_sr τ k (upd (τ k) 0 (τ o 0))) o 1))) k) 2 ((tw_sr (tw_sr τ k (upd (τ k) 0 (τ o 0))) k (upd ((tw_sr τ k (upd (τ k) 0 (τ o 0))) k) 1 ((tw_sr τ k (upd (τ k) 0 (τ o 0))) o 1))) o 2))) o 3))) k) 4 ((tw_sr (tw_sr (tw_sr (tw_sr τ k (upd (τ k) 0 (τ o 0))) k (upd ((tw_sr τ k (upd (τ k) 0 (τ o 0))) k) 1 ((tw_sr τ k (upd (τ k) 0 (τ o 0))) o 1))) k (upd ((tw_sr (tw_sr τ k (upd (τ k) 0 (τ o 0))) k (upd ((tw_sr τ k (upd (τ k) 0 (τ o 0))) k) 1 ((tw_sr τ k (upd (τ k) 0 (τ o 0))) o 1))) k) 2 ((tw_sr (tw_sr τ k (upd (τ k) 0 (τ o 0))) k (upd ((tw_sr τ k (upd (τ k) 0 (τ o 0))) k) 1 ((tw_sr τ k (upd (τ k) 0 (τ o 0))) o 1))) o 2))) k (upd ((tw_sr (tw_sr (tw_sr τ k (upd (τ k) 0 (τ o 0))) k (upd ((tw_sr τ k (upd (τ k) 0 (τ o 0))) k) 1 ((tw_sr τ k (upd (τ k) 0 (τ o 0))) o 1))) k (upd ((tw_sr (tw_sr τ k (upd (τ k) 0 (τ o 0))) k (upd ((tw_sr τ k (upd (τ k) 0 (τ o 0))) k) 1 ((tw_sr τ k (upd (τ k) 0 (τ o 0))) o 1))) k) 2 ((tw_sr (tw_sr τ k (upd (τ k) 0 (τ o 0))) k (upd ((tw_sr τ k (upd (τ k) 0 (τ o 0))) k) 1 ((tw_sr τ k (upd (τ k) 0 (τ o 0))) o 1))) o 2))) k) 3 ((tw_sr (tw_sr (tw_sr τ k (upd (τ k) 0 (τ o 0))) k (upd ((tw_sr τ k (upd (τ k) 0 (τ o 0))) k) 1 ((tw_sr τ k (upd (τ k) 0 (τ o 0))) o 1))) k (upd ((tw_sr (tw_sr τ k (upd (τ k) 0 (τ o 0))) k (upd ((tw_sr τ k (upd (τ k) 0 (τ o 0))) k) 1 ((tw_sr τ k (upd (τ k) 0 (τ o 0))) o 1))) k) 2 ((tw_sr (tw_sr τ k (upd (τ k) 0 (τ o 0))) k (upd ((tw_sr τ k (upd (τ k) 0 (τ o 0))) k) 1 ((tw_sr τ k (upd (τ k) 0 (τ o 0))) o 1))) o 2))) o 3))) o 4))) k (upd ((tw_sr (tw_sr (tw_sr (tw_sr (tw_sr τ k (upd (τ k) 0 (τ o 0))) k (upd ((tw_sr τ k (upd (τ k) 0 (τ o 0))) k) 1 ((tw_sr τ k (upd (τ k) 0 (τ o 0))) o 1))) k (upd ((tw_sr (tw_sr τ k (upd (τ k) 0 (τ o 0))) k (upd ((tw_sr τ k (upd (τ k) 0 (τ o 0))) k) 1 ((tw_sr τ k (upd (τ k) 0 (τ o 0))) o 1))) k) 2 ((tw_sr (tw_sr τ k (upd (τ k) 0 (τ o 0))) k (upd ((tw_sr τ k (upd (τ k) 0 (τ o 0))) k) 1 ((tw_sr τ k (upd (τ k) 0 (τ o 0))) o 1))) o 2))) k (upd ((tw_sr (tw_sr (tw_sr τ k (upd (τ k) 0 (τ o 0))) k (upd ((tw_sr τ k (upd (τ k) 0 (τ o 0))) k) 1 ((tw_sr τ k (upd (τ k) 0 (τ o 0))) o 1))) k (upd ((tw_sr (tw_sr τ k (upd (τ k) 0 (τ o 0))) k (upd ((tw_sr τ k (upd (τ k) 0 (τ o 0))) k) 1 ((tw_sr τ k (upd (τ k) 0 (τ o 0))) o 1))) k) 2 ((tw_sr (tw_sr τ k (upd (τ k) 0 (τ o 0))) k (upd ((tw_sr τ k (upd (τ k) 0 (τ o 0))) k) 1 ((tw_sr τ k (upd (τ k) 0 (τ o 0))) o 1))) o 2))) k) 3 ((tw_sr (tw_sr (tw_sr τ k (upd (τ k) 0 (τ o 0))) k (upd ((tw_sr τ k (upd (τ k) 0 (τ o 0))) k) 1 ((tw_sr τ k (upd (τ k) 0 (τ o 0))) o 1))) k (upd ((tw_sr (tw_sr τ k (upd (τ k) 0 (τ o 0))) k (upd ((tw_sr τ k (upd (τ k) 0 (τ o 0))) k) 1 ((tw_sr τ k (upd (τ k) 0 (τ o 0))) o 1))) k) 2 ((tw_sr (tw_sr τ k (upd (τ k) 0 (τ o 0))) k (upd ((tw_sr τ k (upd (τ k) 0 (τ o 0))) k) 1 ((tw_sr τ k (upd (τ k) 0 (τ o 0))) o 1))) o 2))) o 3))) k (upd ((tw_sr (tw_sr (tw_sr (tw_sr τ k (upd (τ k) 0 (τ o 0))) k (upd ((tw_sr τ k (upd (τ k) 0 (τ o 0))) k) 1 ((tw_sr τ k (upd (τ k) 0 (τ o 0))) o 1))) k (upd ((tw_sr (tw_sr τ k (upd (τ k) 0 (τ o 0))) k (upd ((tw_sr τ k (upd (τ k) 0 (τ o 0))) k) 1 ((tw_sr τ k (upd (τ k) 0 (τ o 0))) o 1))) k) 2 ((tw_sr (tw_sr τ k (upd (τ k) 0 (τ o 0))) k (upd ((tw_sr τ k (upd (τ k) 0 (τ o 0))) k) 1 ((tw_sr τ k (upd (τ k) 0 (τ o 0))) o 1))) o 2))) k (upd ((tw_sr (tw_sr (tw_sr τ k (upd (τ k) 0 (τ o 0))) k (upd ((tw_sr τ k (upd (τ k) 0 (τ o 0))) k) 1 ((tw_sr τ k (upd (τ k) 0 (τ o 0))) o 1))) k (upd ((tw_sr (tw_sr τ k (upd (τ k) 0 (τ o 0))) k (upd ((tw_sr τ k (upd (τ k) 0 (τ o 0))) k) 1 ((tw_sr τ k (upd (τ k) 0 (τ o 0))) o 1))) k) 2 ((tw_sr (tw_sr τ k (upd (τ k) 0 (τ o 0))) k (upd ((tw_sr τ k (upd (τ k) 0 (τ o 0))) k) 1 ((tw_sr τ k (upd (τ k) 0 (τ o 0))) o 1))) o 2))) k) 3 ((tw_sr (tw_sr (tw_sr τ k (upd (τ k) 0 (τ o 0))) k (upd ((tw_sr τ k (upd (τ k) 0 (τ o 0))) k) 1 ((tw_sr τ k (upd (τ k) 0 (τ o 0))) o 1))) k (upd ((tw_sr (tw_sr τ k (upd (τ k) 0 (τ o 0))) k (upd ((tw_sr τ k (upd (τ k) 0 (τ o 0))) k) 1 ((tw_sr τ k (upd (τ k) 0 (τ o 0))) o 1))) k) 2 ((tw_sr (tw_sr τ k (upd (τ k) 0 (τ o 0))) k (upd ((tw_sr τ k (upd (τ k) 0 (τ o 0))) k) 1 ((tw_sr τ k (upd (τ k) 0 (τ o 0))) o 1))) o 2))) o 3))) k) 4 ((tw_sr (tw_sr (tw_sr (tw_sr τ k (upd (τ k) 0 (τ o 0))) k (upd ((tw_sr τ k (upd (τ k) 0 (τ o 0))) k) 1 ((tw_sr τ k (upd (τ k) 0 (τ o 0))) o 1))) k (upd ((tw_sr (tw_sr τ k (upd (τ k) 0 (τ o 0))) k (upd ((tw_sr τ k (upd (τ k) 0 (τ o 0))) k) 1 ((tw_sr τ k (upd (τ k) 0 (τ o 0))) o 1))) k) 2 ((tw_sr (tw_sr τ k (upd (τ k) 0 (τ o 0))) k (upd ((tw_sr τ k (upd (τ k) 0 (τ o 0))) k) 1 ((tw_sr τ k (upd (τ k) 0 (τ o 0))) o 1))) o 2))) k (upd ((tw_sr (tw_sr (tw_sr τ k (upd (τ k) 0 (τ o 0))) k (upd ((tw_sr τ k (upd (τ k) 0 (τ o 0))) k) 1 ((tw_sr τ k (upd (τ k) 0 (τ o 0))) o 1))) k (upd ((tw_sr (tw_sr τ k (upd (τ k) 0 (τ o 0))) k (upd ((tw_sr τ k (upd (τ k) 0 (τ o 0))) k) 1 ((tw_sr τ k (upd (τ k) 0 (τ o 0))) o 1))) k) 2 ((tw_sr (tw_sr τ k (upd (τ k) 0 (τ o 0))) k (upd ((tw_sr τ k (upd (τ k) 0 (τ o 0))) k) 1 ((tw_sr τ k (upd (τ k) 0 (τ o 0))) o 1))) o 2))) k) 3 ((tw_sr (tw_sr (tw_sr τ k (upd (τ k) 0 (τ o 0))) k (upd ((tw_sr τ k (upd (τ k) 0 (τ o 0))) k) 1 ((tw_sr τ k (upd (τ k) 0 (τ o 0))) o 1))) k (upd ((tw_sr (tw_sr τ k (upd (τ k) 0 (τ o 0))) k (upd ((tw_sr τ k (upd (τ k) 0 (τ o 0))) k) 1 ((tw_sr τ k (upd (τ k) 0 (τ o 0))) o 1))) k) 2 ((tw_sr (tw_sr τ k (upd (τ k) 0 (τ o 0))) k (upd ((tw_sr τ k (upd (τ k) 0 (τ o 0))) k) 1 ((tw_sr τ k (upd (τ k) 0 (τ o 0))) o 1))) o 2))) o 3))) o 4))) k) 5 ((tw_sr (tw_sr (tw_sr (tw_sr (tw_sr τ k (upd (τ k) 0 (τ o 0))) k (upd ((tw_sr τ k (upd (τ k) 0 (τ o 0))) k) 1 ((tw_sr τ k (upd (τ k) 0 (τ o 0))) o 1))) k (upd ((tw_sr (tw_sr τ k (upd (τ k) 0 (τ o 0))) k (upd ((tw_sr τ k (upd (τ k) 0 (τ o 0))) k) 1 ((tw_sr τ k (upd (τ k) 0 (τ o 0))) o 1))) k) 2 ((tw_sr (tw_sr τ k (upd (τ k) 0 (τ o 0))) k (upd ((tw_sr τ k (upd (τ k) 0 (τ o 0))) k) 1 ((tw_sr τ k (upd (τ k) 0 (τ o 0))) o 1))) o 2))) k (upd ((tw_sr (tw_sr (tw_sr τ k (upd (τ k) 0 (τ o 0))) k (upd ((tw_sr τ k (upd (τ k) 0 (τ o 0))) k) 1 ((tw_sr τ k (upd (τ k) 0 (τ o 0))) o 1))) k (upd ((tw_sr (tw_sr τ k (upd (τ k) 0 (τ o 0))) k (upd ((tw_sr τ k (upd (τ k) 0 (τ o 0))) k) 1 ((tw_sr τ k (upd (τ k) 0 (τ o 0))) o 1))) k) 2 ((tw_sr (tw_sr τ k (upd (τ k) 0 (τ o 0))) k (upd ((tw_sr τ k (upd (τ k) 0 (τ o 0))) k) 1 ((tw_sr τ k (upd (τ k) 0 (τ o 0))) o 1))) o 2))) k) 3 ((tw_sr (tw_sr (tw_sr τ k (upd (τ k) 0 (τ o 0))) k (upd ((tw_sr τ k (upd (τ k) 0 (τ o 0))) k) 1 ((tw_sr τ k (upd (τ k) 0 (τ o 0))) o 1))) k (upd ((tw_sr (tw_sr τ k (upd (τ k) 0 (τ o 0))) k (upd ((tw_sr τ k (upd (τ k) 0 (τ o 0))) k) 1 ((tw_sr τ k (upd (τ k) 0 (τ o 0))) o 1))) k) 2 ((tw_sr (tw_sr τ k (upd (τ k) 0 (τ o 0))) k (upd ((tw_sr τ k (upd (τ k) 0 (τ o 0))) k) 1 ((tw_sr τ k (upd (τ k) 0 (τ o 0))) o 1))) o 2))) o 3))) k (upd ((tw_sr (tw_sr (tw_sr (tw_sr τ k (upd (τ k) 0 (τ o 0))) k (upd ((tw_sr τ k (upd (τ k) 0 (τ o 0))) k) 1 ((tw_sr τ k (upd (τ k) 0 (τ o 0))) o 1))) k (upd ((tw_sr (tw_sr τ k (upd (τ k) 0 (τ o 0))) k (upd ((tw_sr τ k (upd (τ k) 0 (τ o 0))) k) 1 ((tw_sr τ k (upd (τ k) 0 (τ o 0))) o 1))) k) 2 ((tw_sr (tw_sr τ k (upd (τ k) 0 (τ o 0))) k (upd ((tw_sr τ k (upd (τ k) 0 (τ o 0))) k) 1 ((tw_sr τ k (upd (τ k) 0 (τ o 0))) o 1))) o 2))) k (upd ((tw_sr (tw_sr (tw_sr τ k (upd (τ k) 0 (τ o 0))) k (upd ((tw_sr τ k (upd (τ k) 0 (τ o 0))) k) 1 ((tw_sr τ k (upd (τ k) 0 (τ o 0))) o 1))) k (upd ((tw_sr (tw_sr τ k (upd (τ k) 0 (τ o 0))) k (upd ((tw_sr τ k (upd (τ k) 0 (τ o 0))) k) 1 ((tw_sr τ k (upd (τ k) 0 (τ o 0))) o 1))) k) 2 ((tw_sr (tw_sr τ k (upd (τ k) 0 (τ o 0))) k (upd ((tw_sr τ k (upd (τ k) 0 (τ o 0))) k) 1 ((tw_sr τ k (upd (τ k) 0 (τ o 0))) o 1))) o 2))) k) 3 ((tw_sr (tw_sr (tw_sr τ k (upd (τ k) 0 (τ o 0))) k (upd ((tw_sr τ k (upd (τ k) 0 (τ o 0))) k) 1 ((tw_sr τ k (upd (τ k) 0 (τ o 0))) o 1))) k (upd ((tw_sr (tw_sr τ k (upd (τ k) 0 (τ o 0))) k (upd ((tw_sr τ k (upd (τ k) 0 (τ o 0))) k) 1 ((tw_sr τ k (upd (τ k) 0 (τ o 0))) o 1))) k) 2 ((tw_sr (tw_sr τ k (upd (τ k) 0 (τ o 0))) k (upd ((tw_sr τ k (upd (τ k) 0 (τ o 0))) k) 1 ((tw_sr τ k (upd (τ k) 0 (τ o 0))) o 1))) o 2))) o 3))) k) 4 ((tw_sr (tw_sr (tw_sr (tw_sr τ k (upd (τ k) 0 (τ o 0))) k (upd ((tw_sr τ k (upd (τ k) 0 (τ o 0))) k) 1 ((tw_sr τ k (upd (τ k) 0 (τ o 0))) o 1))) k (upd ((tw_sr (tw_sr τ k (upd (τ k) 0 (τ o 0))) k (upd ((tw_sr τ k (upd (τ k) 0 (τ o 0))) k) 1 ((tw_sr τ k (upd (τ k) 0 (τ o 0))) o 1))) k) 2 ((tw_sr (tw_sr τ k (upd (τ k) 0 (τ o 0))) k (upd ((tw_sr τ k (upd (τ k) 0 (τ o 0))) k) 1 ((tw_sr τ k (upd (τ k) 0 (τ o 0))) o 1))) o 2))) k (upd ((tw_sr (tw_sr (tw_sr τ k (upd (τ k) 0 (τ o 0))) k (upd ((tw_sr τ k (upd (τ k) 0 (τ o 0))) k) 1 ((tw_sr τ k (upd (τ k) 0 (τ o 0))) o 1))) k (upd ((tw_sr (tw_sr τ k (upd (τ k) 0 (τ o 0))) k (upd ((tw_sr τ k (upd (τ k) 0 (τ o 0))) k) 1 ((tw_sr τ k (upd (τ k) 0 (τ o 0))) o 1))) k) 2 ((tw_sr (tw_sr τ k (upd (τ k) 0 (τ o 0))) k (upd ((tw_sr τ k (upd (τ k) 0 (τ o 0))) k) 1 ((tw_sr τ k (upd (τ k) 0 (τ o 0))) o 1))) o 2))) k) 3 ((tw_sr (tw_sr (tw_sr τ k (upd (τ k) 0 (τ o 0))) k (upd ((tw_sr τ k (upd (τ k) 0 (τ o 0))) k) 1 ((tw_sr τ k (upd (τ k) 0 (τ o 0))) o 1))) k (upd ((tw_sr (tw_sr τ k (upd (τ k) 0 (τ o 0))) k (upd ((tw_sr τ k (upd (τ k) 0 (τ o 0))) k) 1 ((tw_sr τ k (upd (τ k) 0 (τ o 0))) o 1))) k) 2 ((tw_sr (tw_sr τ k (upd (τ k) 0 (τ o 0))) k (upd ((tw_sr τ k (upd (τ k) 0 (τ o 0))) k) 1 ((tw_sr τ k (upd (τ k) 0 (τ o 0))) o 1))) o 2))) o 3))) o 4))) o 5))) k (upd ((tw_sr (tw_sr (tw_sr (tw_sr (tw_sr (tw_sr τ k (upd (τ k) 0 (τ o 0))) k (upd ((tw_sr τ k (upd (τ k) 0 (τ o 0))) k) 1 ((tw_sr τ k (upd (τ k) 0 (τ o 0))) o 1))) k (upd ((tw_sr (tw_sr τ k (upd (τ k) 0 (τ o 0))) k (upd ((tw_sr τ k (upd (τ k) 0 (τ o 0))) k) 1 ((tw_sr τ k (upd (τ k) 0 (τ o 0))) o 1))) k) 2 ((tw_sr (tw_sr τ k (upd (τ k) 0 (τ o 0))) k (upd ((tw_sr τ k (upd (τ k) 0 (τ o 0))) k) 1 ((tw_sr τ k (upd (τ k) 0 (τ o 0))) o 1))) o 2))) k (upd ((tw_sr (tw_sr (tw_sr τ k (upd (τ k) 0 (τ o 0))) k (upd ((tw_sr τ k (upd (τ k) 0 (τ o 0))) k) 1 ((tw_sr τ k (upd (τ k) 0 (τ o 0))) o 1))) k (upd ((tw_sr (tw_sr τ k (upd (τ k) 0 (τ o 0))) k (upd ((tw_sr τ k (upd (τ k) 0 (τ o 0))) k) 1 ((tw_sr τ k (upd (τ k) 0 (τ o 0))) o 1))) k) 2 ((tw_sr (tw_sr τ k (upd (τ k) 0 (τ o 0))) k (upd ((tw_sr τ k (upd (τ k) 0 (τ o 0))) k) 1 ((tw_sr τ k (upd (τ k) 0 (τ o 0))) o 1))) o 2))) k) 3 ((tw_sr (tw_sr (tw_sr τ k (upd (τ k) 0 (τ o 0))) k (upd ((tw_sr τ k (upd (τ k) 0 (τ o 0))) k) 1 ((tw_sr τ k (upd (τ k) 0 (τ o 0))) o 1))) k (upd ((tw_sr (tw_sr τ k (upd (τ k) 0 (τ o 0))) k (upd ((tw_sr τ k (upd (τ k) 0 (τ o 0))) k) 1 ((tw_sr τ k (upd (τ k) 0 (τ o 0))) o 1))) k) 2 ((tw_sr (tw_sr τ k (upd (τ k) 0 (τ o 0))) k (upd ((tw_sr τ k (upd (τ k) 0 (τ o 0))) k) 1 ((tw_sr τ k (upd (τ k) 0 (τ o 0))) o 1))) o 2))) o 3))) k (upd ((tw_sr (tw_sr (tw_sr (tw_sr τ k (upd (τ k) 0 (τ o 0))) k (upd ((tw_sr τ k (upd (τ k) 0 (τ o 0))) k) 1 ((tw_sr τ k (upd (τ k) 0 (τ o 0))) o 1))) k (upd ((tw_sr (tw_sr τ k (upd (τ k) 0 (τ o 0))) k (upd ((tw_sr τ k (upd (τ k) 0 (τ o 0))) k) 1 ((tw_sr τ k (upd (τ k) 0 (τ o 0))) o 1))) k) 2 ((tw_sr (tw_sr τ k (upd (τ k) 0 (τ o 0))) k (upd ((tw_sr τ k (upd (τ k) 0 (τ o 0))) k) 1 ((tw_sr τ k (upd (τ k) 0 (τ o 0))) o 1))) o 2))) k (upd ((tw_sr (tw_sr (tw_sr τ k (upd (τ k) 0 (τ o 0))) k (upd ((tw_sr τ k (upd (τ k) 0 (τ o 0))) k) 1 ((tw_sr τ k (upd (τ k) 0 (τ o 0))) o 1))) k (upd ((tw_sr (tw_sr τ k (upd (τ k) 0 (τ o 0))) k (upd ((tw_sr τ k (upd (τ k) 0 (τ o 0))) k) 1 ((tw_sr τ k (upd (τ k) 0 (τ o 0))) o 1))) k) 2 ((tw_sr (tw_sr τ k (upd (τ k) 0 (τ o 0))) k (upd ((tw_sr τ k (upd (τ k) 0 (τ o 0))) k) 1 ((tw_sr τ k (upd (τ k) 0 (τ o 0))) o 1))) o 2))) k) 3 ((tw_sr (tw_sr (tw_sr τ k (upd (τ k) 0 (τ o 0))) k (upd ((tw_sr τ k (upd (τ k) 0 (τ o 0))) k) 1 ((tw_sr τ k (upd (τ k) 0 (τ o 0))) o 1))) k (upd ((tw_sr (tw_sr τ k (upd (τ k) 0 (τ o 0))) k (upd ((tw_sr τ k (upd (τ k) 0 (τ o 0))) k) 1 ((tw_sr τ k (upd (τ k) 0 (τ o 0))) o 1))) k) 2 ((tw_sr (tw_sr τ k (upd (τ k) 0 (τ o 0))) k (upd ((tw_sr τ k (upd (τ k) 0 (τ o 0))) k) 1 ((tw_sr τ k (upd (τ k) 0 (τ o 0))) o 1))) o 2))) o 3))) k) 4 ((tw_sr (tw_sr (tw_sr (tw_sr τ k (upd (τ k) 0 (τ o 0))) k (upd ((tw_sr τ k (upd (τ k) 0 (τ o 0))) k) 1 ((tw_sr τ k (upd (τ k) 0 (τ o 0))) o 1))) k (upd ((tw_sr (tw_sr τ k (upd (τ k) 0 (τ o 0))) k (upd ((tw_sr τ k (upd (τ k) 0 (τ o 0))) k) 1 ((tw_sr τ k (upd (τ k) 0 (τ o 0))) o 1))) k) 2 ((tw_sr (tw_sr τ k (upd (τ k) 0 (τ o 0))) k (upd ((tw_sr τ k (upd (τ k) 0 (τ o 0))) k) 1 ((tw_sr τ k (upd (τ k) 0 (τ o 0))) o 1))) o 2))) k (upd ((tw_sr (tw_sr (tw_sr τ k (upd (τ k) 0 (τ o 0))) k (upd ((tw_sr τ k (upd (τ k) 0 (τ o 0))) k) 1 ((tw_sr τ k (upd (τ k) 0 (τ o 0))) o 1))) k (upd ((tw_sr (tw_sr τ k (upd (τ k) 0 (τ o 0))) k (upd ((tw_sr τ k (upd (τ k) 0 (τ o 0))) k) 1 ((tw_sr τ k (upd (τ k) 0 (τ o 0))) o 1))) k) 2 ((tw_sr (tw_sr τ k (upd (τ k) 0 (τ o 0))) k (upd ((tw_sr τ k (upd (τ k) 0 (τ o 0))) k) 1 ((tw_sr τ k (upd (τ k) 0 (τ o 0))) o 1))) o 2))) k) 3 ((tw_sr (tw_sr (tw_sr τ k (upd (τ k) 0 (τ o 0))) k (upd ((tw_sr τ k (upd (τ k) 0 (τ o 0))) k) 1 ((tw_sr τ k (upd (τ k) 0 (τ o 0))) o 1))) k (upd ((tw_sr (tw_sr τ k (upd (τ k) 0 (τ o 0))) k (upd ((tw_sr τ k (upd (τ k) 0 (τ o 0))) k) 1 ((tw_sr τ k (upd (τ k) 0 (τ o 0))) o 1))) k) 2 ((tw_sr (tw_sr τ k (upd (τ k) 0 (τ o 0))) k (upd ((tw_sr τ k (upd (τ k) 0 (τ o 0))) k) 1 ((tw_sr τ k (upd (τ k) 0 (τ o 0))) o 1))) o 2))) o 3))) o 4))) k (upd ((tw_sr (tw_sr (tw_sr (tw_sr (tw_sr τ k (upd (τ k) 0 (τ o 0))) k (upd ((tw_sr τ k (upd (τ k) 0 (τ o 0))) k) 1 ((tw_sr τ k (upd (τ k) 0 (τ o 0))) o 1))) k (upd ((tw_sr (tw_sr τ k (upd (τ k) 0 (τ o 0))) k (upd ((tw_sr τ k (upd (τ k) 0 (τ o 0))) k) 1 ((tw_sr τ k (upd (τ k) 0 (τ o 0))) o 1))) k) 2 ((tw_sr (tw_sr τ k (upd (τ k) 0 (τ o 0))) k (upd ((tw_sr τ k (upd (τ k) 0 (τ o 0))) k) 1 ((tw_sr τ k (upd (τ k) 0 (τ o 0))) o 1))) o 2))) k (upd ((tw_sr (tw_sr (tw_sr τ k (upd (τ k) 0 (τ o 0))) k (upd ((tw_sr τ k (upd (τ k) 0 (τ o 0))) k) 1 ((tw_sr τ k (upd (τ k) 0 (τ o 0))) o 1))) k (upd ((tw_sr (tw_sr τ k (upd (τ k) 0 (τ o 0))) k (upd ((tw_sr τ k (upd (τ k) 0 (τ o 0))) k) 1 ((tw_sr τ k (upd (τ k) 0 (τ o 0))) o 1))) k) 2 ((tw_sr (tw_sr τ k (upd (τ k) 0 (τ o 0))) k (upd ((tw_sr τ k (upd (τ k) 0 (τ o 0))) k) 1 ((tw_sr τ k (upd (τ k) 0 (τ o 0))) o 1))) o 2))) k) 3 ((tw_sr (tw_sr (tw_sr τ k (upd (τ k) 0 (τ o 0))) k (upd ((tw_sr τ k (upd (τ k) 0 (τ o 0))) k) 1 ((tw_sr τ k (upd (τ k) 0 (τ o 0))) o 1))) k (upd ((tw_sr (tw_sr τ k (upd (τ k) 0 (τ o 0))) k (upd ((tw_sr τ k (upd (τ k) 0 (τ o 0))) k) 1 ((tw_sr τ k (upd (τ k) 0 (τ o 0))) o 1))) k) 2 ((tw_sr (tw_sr τ k (upd (τ k) 0 (τ o 0))) k (upd ((tw_sr τ k (upd (τ k) 0 (τ o 0))) k) 1 ((tw_sr τ k (upd (τ k) 0 (τ o 0))) o 1))) o 2))) o 3))) k (upd ((tw_sr (tw_sr (tw_sr (tw_sr τ k (upd (τ k) 0 (τ o 0))) k (upd ((tw_sr τ k (upd (τ k) 0 (τ o 0))) k) 1 ((tw_sr τ k (upd (τ k) 0 (τ o 0))) o 1))) k (upd ((tw_sr (tw_sr τ k (upd (τ k) 0 (τ o 0))) k (upd ((tw_sr τ k (upd (τ k) 0 (τ o 0))) k) 1 ((tw_sr τ k (upd (τ k) 0 (τ o 0))) o 1))) k) 2 ((tw_sr (tw_sr τ k (upd (τ k) 0 (τ o 0))) k (upd ((tw_sr τ k (upd (τ k) 0 (τ o 0))) k) 1 ((tw_sr τ k (upd (τ k) 0 (τ o 0))) o 1))) o 2))) k (upd ((tw_sr (tw_sr (tw_sr τ k (upd (τ k) 0 (τ o 0))) k (upd ((tw_sr τ k (upd (τ k) 0 (τ o 0))) k) 1 ((tw_sr τ k (upd (τ k) 0 (τ o 0))) o 1))) k (upd ((tw_sr (tw_sr τ k (upd (τ k) 0 (τ o 0))) k (upd ((tw_sr τ k (upd (τ k) 0 (τ o 0))) k) 1 ((tw_sr τ k (upd (τ k) 0 (τ o 0))) o 1))) k) 2 ((tw_sr (tw_sr τ k (upd (τ k) 0 (τ o 0))) k (upd ((tw_sr τ k (upd (τ k) 0 (τ o 0))) k) 1 ((tw_sr τ k (upd (τ k) 0 (τ o 0))) o 1))) o 2))) k) 3 ((tw_sr (tw_sr (tw_sr τ k (upd (τ k) 0 (τ o 0))) k (upd ((tw_sr τ k (upd (τ k) 0 (τ o 0))) k) 1 ((tw_sr τ k (upd (τ k) 0 (τ o 0))) o 1))) k (upd ((tw_sr (tw_sr τ k (upd (τ k) 0 (τ o 0))) k (upd ((tw_sr τ k (upd (τ k) 0 (τ o 0))) k) 1 ((tw_sr τ k (upd (τ k) 0 (τ o 0))) o 1))) k) 2 ((tw_sr (tw_sr τ k (upd (τ k) 0 (τ o 0))) k (upd ((tw_sr τ k (upd (τ k) 0 (τ o 0))) k) 1 ((tw_sr τ k (upd (τ k) 0 (τ o 0))) o 1))) o 2))) o 3))) k) 4 ((tw_sr (tw_sr (tw_sr (tw_sr τ k (upd (τ k) 0 (τ o 0))) k (upd ((tw_sr τ k (upd (τ k) 0 (τ o 0))) k) 1 ((tw_sr τ k (upd (τ k) 0 (τ o 0))) o 1))) k (upd ((tw_sr (tw_sr τ k (upd (τ k) 0 (τ o 0))) k (upd ((tw_sr τ k (upd (τ k) 0 (τ o 0))) k) 1 ((tw_sr τ k (upd (τ k) 0 (τ o 0))) o 1))) k) 2 ((tw_sr (tw_sr τ k (upd (τ k) 0 (τ o 0))) k (upd ((tw_sr τ k (upd (τ k) 0 (τ o 0))) k) 1 ((tw_sr τ k (upd (τ k) 0 (τ o 0))) o 1))) o 2))) k (upd ((tw_sr (tw_sr (tw_sr τ k (upd (τ k) 0 (τ o 0))) k (upd ((tw_sr τ k (upd (τ k) 0 (τ o 0))) k) 1 ((tw_sr τ k (upd (τ k) 0 (τ o 0))) o 1))) k (upd ((tw_sr (tw_sr τ k (upd (τ k) 0 (τ o 0))) k (upd ((tw_sr τ k (upd (τ k) 0 (τ o 0))) k) 1 ((tw_sr τ k (upd (τ k) 0 (τ o 0))) o 1))) k) 2 ((tw_sr (tw_sr τ k (upd (τ k) 0 (τ o 0))) k (upd ((tw_sr τ k (upd (τ k) 0 (τ o 0))) k) 1 ((tw_sr τ k (upd (τ k) 0 (τ o 0))) o 1))) o 2))) k) 3 ((tw_sr (tw_sr (tw_sr τ k (upd (τ k) 0 (τ o 0))) k (upd ((tw_sr τ k (upd (τ k) 0 (τ o 0))) k) 1 ((tw_sr τ k (upd (τ k) 0 (τ o 0))) o 1))) k (upd ((tw_sr (tw_sr τ k (upd (τ k) 0 (τ o 0))) k (upd ((tw_sr τ k (upd (τ k) 0 (τ o 0))) k) 1 ((tw_sr τ k (upd (τ k) 0 (τ o 0))) o 1))) k) 2 ((tw_sr (tw_sr τ k (upd (τ k) 0 (τ o 0))) k (upd ((tw_sr τ k (upd (τ k) 0 (τ o 0))) k) 1 ((tw_sr τ k (upd (τ k) 0 (τ o 0))) o 1))) o 2))) o 3))) o 4))) k) 5 ((tw_sr (tw_sr (tw_sr (tw_sr (tw_sr τ k (upd (τ k) 0 (τ o 0))) k (upd ((tw_sr τ k (upd (τ k) 0 (τ o 0))) k) 1 ((tw_sr τ k (upd (τ k) 0 (τ o 0))) o 1))) k (upd ((tw_sr (tw_sr τ k (upd (τ k) 0 (τ o 0))) k (upd ((tw_sr τ k (upd (τ k) 0 (τ o 0))) k) 1 ((tw_sr τ k (upd (τ k) 0 (τ o 0))) o 1))) k) 2 ((tw_sr (tw_sr τ k (upd (τ k) 0 (τ o 0))) k (upd ((tw_sr τ k (upd (τ k) 0 (τ o 0))) k) 1 ((tw_sr τ k (upd (τ k) 0 (τ o 0))) o 1))) o 2))) k (upd ((tw_sr (tw_sr (tw_sr τ k (upd (τ k) 0 (τ o 0))) k (upd ((tw_sr τ k (upd (τ k) 0 (τ o 0))) k) 1 ((tw_sr τ k (upd (τ k) 0 (τ o 0))) o 1))) k (upd ((tw_sr (tw_sr τ k (upd (τ k) 0 (τ o 0))) k (upd ((tw_sr τ k (upd (τ k) 0 (τ o 0))) k) 1 ((tw_sr τ k (upd (τ k) 0 (τ o 0))) o 1))) k) 2 ((tw_sr (tw_sr τ k (upd (τ k) 0 (τ o 0))) k (upd ((tw_sr τ k (upd (τ k) 0 (τ o 0))) k) 1 ((tw_sr τ k (upd (τ k) 0 (τ o 0))) o 1))) o 2))) k) 3 ((tw_sr (tw_sr (tw_sr τ k (upd (τ k) 0 (τ o 0))) k (upd ((tw_sr τ k (upd (τ k) 0 (τ o 0))) k) 1 ((tw_sr τ k (upd (τ k) 0 (τ o 0))) o 1))) k (upd ((tw_sr (tw_sr τ k (upd (τ k) 0 (τ o 0))) k (upd ((tw_sr τ k (upd (τ k) 0 (τ o 0))) k) 1 ((tw_sr τ k (upd (τ k) 0 (τ o 0))) o 1))) k) 2 ((tw_sr (tw_sr τ k (upd (τ k) 0 (τ o 0))) k (upd ((tw_sr τ k (upd (τ k) 0 (τ o 0))) k) 1 ((tw_sr τ k (upd (τ k) 0 (τ o 0))) o 1))) o 2))) o 3))) k (upd ((tw_sr (tw_sr (tw_sr (tw_sr τ k (upd (τ k) 0 (τ o 0))) k (upd ((tw_sr τ k (upd (τ k) 0 (τ o 0))) k) 1 ((tw_sr τ k (upd (τ k) 0 (τ o 0))) o 1))) k (upd ((tw_sr (tw_sr τ k (upd (τ k) 0 (τ o 0))) k (upd ((tw_sr τ k (upd (τ k) 0 (τ o 0))) k) 1 ((tw_sr τ k (upd (τ k) 0 (τ o 0))) o 1))) k) 2 ((tw_sr (tw_sr τ k (upd (τ k) 0 (τ o 0))) k (upd ((tw_sr τ k (upd (τ k) 0 (τ o 0))) k) 1 ((tw_sr τ k (upd (τ k) 0 (τ o 0))) o 1))) o 2))) k (upd ((tw_sr (tw_sr (tw_sr τ k (upd (τ k) 0 (τ o 0))) k (upd ((tw_sr τ k (upd (τ k) 0 (τ o 0))) k) 1 ((tw_sr τ k (upd (τ k) 0 (τ o 0))) o 1))) k (upd ((tw_sr (tw_sr τ k (upd (τ k) 0 (τ o 0))) k (upd ((tw_sr τ k (upd (τ k) 0 (τ o 0))) k) 1 ((tw_sr τ k (upd (τ k) 0 (τ o 0))) o 1))) k) 2 ((tw_sr (tw_sr τ k (upd (τ k) 0 (τ o 0))) k (upd ((tw_sr τ k (upd (τ k) 0 (τ o 0))) k) 1 ((tw_sr τ k (upd (τ k) 0 (τ o 0))) o 1))) o 2))) k) 3 ((tw_sr (tw_sr (tw_sr τ k (upd (τ k) 0 (τ o 0))) k (upd ((tw_sr τ k (upd (τ k) 0 (τ o 0))) k) 1 ((tw_sr τ k (upd (τ k) 0 (τ o 0))) o 1))) k (upd ((tw_sr (tw_sr τ k (upd (τ k) 0 (τ o 0))) k (upd ((tw_sr τ k (upd (τ k) 0 (τ o 0))) k) 1 ((tw_sr τ k (upd (τ k) 0 (τ o 0))) o 1))) k) 2 ((tw_sr (tw_sr τ k (upd (τ k) 0 (τ o 0))) k (upd ((tw_sr τ k (upd (τ k) 0 (τ o 0))) k) 1 ((tw_sr τ k (upd (τ k) 0 (τ o 0))) o 1))) o 2))) o 3))) k) 4 ((tw_sr (tw_sr (tw_sr (tw_sr τ k (upd (τ k) 0 (τ o 0))) k (upd ((tw_sr τ k (upd (τ k) 0 (τ o 0))) k) 1 ((tw_sr τ k (upd (τ k) 0 (τ o 0))) o 1))) k (upd ((tw_sr (tw_sr τ k (upd (τ k) 0 (τ o 0))) k (upd ((tw_sr τ k (upd (τ k) 0 (τ o 0))) k) 1 ((tw_sr τ k (upd (τ k) 0 (τ o 0))) o 1))) k) 2 ((tw_sr (tw_sr τ k (upd (τ k) 0 (τ o 0))) k (upd ((tw_sr τ k (upd (τ k) 0 (τ o 0))) k) 1 ((tw_sr τ k (upd (τ k) 0 (τ o 0))) o 1))) o 2))) k (upd ((tw_sr (tw_sr (tw_sr τ k (upd (τ k) 0 (τ o 0))) k (upd ((tw_sr τ k (upd (τ k) 0 (τ o 0))) k) 1 ((tw_sr τ k (upd (τ k) 0 (τ o 0))) o 1))) k (upd ((tw_sr (tw_sr τ k (upd (τ k) 0 (τ o 0))) k (upd ((tw_sr τ k (upd (τ k) 0 (τ o 0))) k) 1 ((tw_sr τ k (upd (τ k) 0 (τ o 0))) o 1))) k) 2 ((tw_sr (tw_sr τ k (upd (τ k) 0 (τ o 0))) k (upd ((tw_sr τ k (upd (τ k) 0 (τ o 0))) k) 1 ((tw_sr τ k (upd (τ k) 0 (τ o 0))) o 1))) o 2))) k) 3 ((tw_sr (tw_sr (tw_sr τ k (upd (τ k) 0 (τ o 0))) k (upd ((tw_sr τ k (upd (τ k) 0 (τ o 0))) k) 1 ((tw_sr τ k (upd (τ k) 0 (τ o 0))) o 1))) k (upd ((tw_sr (tw_sr τ k (upd (τ k) 0 (τ o 0))) k (upd ((tw_sr τ k (upd (τ k) 0 (τ o 0))) k) 1 ((tw_sr τ k (upd (τ k) 0 (τ o 0))) o 1))) k) 2 ((tw_sr (tw_sr τ k (upd (τ k) 0 (τ o 0))) k (upd ((tw_sr τ k (upd (τ k) 0 (τ o 0))) k) 1 ((tw_sr τ k (upd (τ k) 0 (τ o 0))) o 1))) o 2))) o 3))) o 4))) o 5))) k) 6 ((tw_sr (tw_sr (tw_sr (tw_sr (tw_sr (tw_sr τ k (upd (τ k) 0 (τ o 0))) k (upd ((tw_sr τ k (upd (τ k) 0 (τ o 0))) k) 1 ((tw_sr τ k (upd (τ k) 0 (τ o 0))) o 1))) k (upd ((tw_sr (tw_sr τ k (upd (τ k) 0 (τ o 0))) k (upd ((tw_sr τ k (upd (τ k) 0 (τ o 0))) k) 1 ((tw_sr τ k (upd (τ k) 0 (τ o 0))) o 1))) k) 2 ((tw_sr (tw_sr τ k (upd (τ k) 0 (τ o 0))) k (upd ((tw_sr τ k (upd (τ k) 0 (τ o 0))) k) 1 ((tw_sr τ k (upd (τ k) 0 (τ o 0))) o 1))) o 2))) k (upd ((tw_sr (tw_sr (tw_sr τ k (upd (τ k) 0 (τ o 0))) k (upd ((tw_sr τ k (upd (τ k) 0 (τ o 0))) k) 1 ((tw_sr τ k (upd (τ k) 0 (τ o 0))) o 1))) k (upd ((tw_sr (tw_sr τ k (upd (τ k) 0 (τ o 0))) k (upd ((tw_sr τ k (upd (τ k) 0 (τ o 0))) k) 1 ((tw_sr τ k (upd (τ k) 0 (τ o 0))) o 1))) k) 2 ((tw_sr (tw_sr τ k (upd (τ k) 0 (τ o 0))) k (upd ((tw_sr τ k (upd (τ k) 0 (τ o 0))) k) 1 ((tw_sr τ k (upd (τ k) 0 (τ o 0))) o 1))) o 2))) k) 3 ((tw_sr (tw_sr (tw_sr τ k (upd (τ k) 0 (τ o 0))) k (upd ((tw_sr τ k (upd (τ k) 0 (τ o 0))) k) 1 ((tw_sr τ k (upd (τ k) 0 (τ o 0))) o 1))) k (upd ((tw_sr (tw_sr τ k (upd (τ k) 0 (τ o 0))) k (upd ((tw_sr τ k (upd (τ k) 0 (τ o 0))) k) 1 ((tw_sr τ k (upd (τ k) 0 (τ o 0))) o 1))) k) 2 ((tw_sr (tw_sr τ k (upd (τ k) 0 (τ o 0))) k (upd ((tw_sr τ k (upd (τ k) 0 (τ o 0))) k) 1 ((tw_sr τ k (upd (τ k) 0 (τ o 0))) o 1))) o 2))) o 3))) k (upd ((tw_sr (tw_sr (tw_sr (tw_sr τ k (upd (τ k) 0 (τ o 0))) k (upd ((tw_sr τ k (upd (τ k) 0 (τ o 0))) k) 1 ((tw_sr τ k (upd (τ k) 0 (τ o 0))) o 1))) k (upd ((tw_sr (tw_sr τ k (upd (τ k) 0 (τ o 0))) k (upd ((tw_sr τ k (upd (τ k) 0 (τ o 0))) k) 1 ((tw_sr τ k (upd (τ k) 0 (τ o 0))) o 1))) k) 2 ((tw_sr (tw_sr τ k (upd (τ k) 0 (τ o 0))) k (upd ((tw_sr τ k (upd (τ k) 0 (τ o 0))) k) 1 ((tw_sr τ k (upd (τ k) 0 (τ o 0))) o 1))) o 2))) k (upd ((tw_sr (tw_sr (tw_sr τ k (upd (τ k) 0 (τ o 0))) k (upd ((tw_sr τ k (upd (τ k) 0 (τ o 0))) k) 1 ((tw_sr τ k (upd (τ k) 0 (τ o 0))) o 1))) k (upd ((tw_sr (tw_sr τ k (upd (τ k) 0 (τ o 0))) k (upd ((tw_sr τ k (upd (τ k) 0 (τ o 0))) k) 1 ((tw_sr τ k (upd (τ k) 0 (τ o 0))) o 1))) k) 2 ((tw_sr (tw_sr τ k (upd (τ k) 0 (τ o 0))) k (upd ((tw_sr τ k (upd (τ k) 0 (τ o 0))) k) 1 ((tw_sr τ k (upd (τ k) 0 (τ o 0))) o 1))) o 2))) k) 3 ((tw_sr (tw_sr (tw_sr τ k (upd (τ k) 0 (τ o 0))) k (upd ((tw_sr τ k (upd (τ k) 0 (τ o 0))) k) 1 ((tw_sr τ k (upd (τ k) 0 (τ o 0))) o 1))) k (upd ((tw_sr (tw_sr τ k (upd (τ k) 0 (τ o 0))) k (upd ((tw_sr τ k (upd (τ k) 0 (τ o 0))) k) 1 ((tw_sr τ k (upd (τ k) 0 (τ o 0))) o 1))) k) 2 ((tw_sr (tw_sr τ k (upd (τ k) 0 (τ o 0))) k (upd ((tw_sr τ k (upd (τ k) 0 (τ o 0))) k) 1 ((tw_sr τ k (upd (τ k) 0 (τ o 0))) o 1))) o 2))) o 3))) k) 4 ((tw_sr (tw_sr (tw_sr (tw_sr τ k (upd (τ k) 0 (τ o 0))) k (upd ((tw_sr τ k (upd (τ k) 0 (τ o 0))) k) 1 ((tw_sr τ k (upd (τ k) 0 (τ o 0))) o 1))) k (upd ((tw_sr (tw_sr τ k (upd (τ k) 0 (τ o 0))) k (upd ((tw_sr τ k (upd (τ k) 0 (τ o 0))) k) 1 ((tw_sr τ k (upd (τ k) 0 (τ o 0))) o 1))) k) 2 ((tw_sr (tw_sr τ k (upd (τ k) 0 (τ o 0))) k (upd ((tw_sr τ k (upd (τ k) 0 (τ o 0))) k) 1 ((tw_sr τ k (upd (τ k) 0 (τ o 0))) o 1))) o 2))) k (upd ((tw_sr (tw_sr (tw_sr τ k (upd (τ k) 0 (τ o 0))) k (upd ((tw_sr τ k (upd (τ k) 0 (τ o 0))) k) 1 ((tw_sr τ k (upd (τ k) 0 (τ o 0))) o 1))) k (upd ((tw_sr (tw_sr τ k (upd (τ k) 0 (τ o 0))) k (upd ((tw_sr τ k (upd (τ k) 0 (τ o 0))) k) 1 ((tw_sr τ k (upd (τ k) 0 (τ o 0))) o 1))) k) 2 ((tw_sr (tw_sr τ k (upd (τ k) 0 (τ o 0))) k (upd ((tw_sr τ k (upd (τ k) 0 (τ o 0))) k) 1 ((tw_sr τ k (upd (τ k) 0 (τ o 0))) o 1))) o 2))) k) 3 ((tw_sr (tw_sr (tw_sr τ k (upd (τ k) 0 (τ o 0))) k (upd ((tw_sr τ k (upd (τ k) 0 (τ o 0))) k) 1 ((tw_sr τ k (upd (τ k) 0 (τ o 0))) o 1))) k (upd ((tw_sr (tw_sr τ k (upd (τ k) 0 (τ o 0))) k (upd ((tw_sr τ k (upd (τ k) 0 (τ o 0))) k) 1 ((tw_sr τ k (upd (τ k) 0 (τ o 0))) o 1))) k) 2 ((tw_sr (tw_sr τ k (upd (τ k) 0 (τ o 0))) k (upd ((tw_sr τ k (upd (τ k) 0 (τ o 0))) k) 1 ((tw_sr τ k (upd (τ k) 0 (τ o 0))) o 1))) o 2))) o 3))) o 4))) k (upd ((tw_sr (tw_sr (tw_sr (tw_sr (tw_sr τ k (upd (τ k) 0 (τ o 0))) k (upd ((tw_sr τ k (upd (τ k) 0 (τ o 0))) k) 1 ((tw_sr τ k (upd (τ k) 0 (τ o 0))) o 1))) k (upd ((tw_sr (tw_sr τ k (upd (τ k) 0 (τ o 0))) k (upd ((tw_sr τ k (upd (τ k) 0 (τ o 0))) k) 1 ((tw_sr τ k (upd (τ k) 0 (τ o 0))) o 1))) k) 2 ((tw_sr (tw_sr τ k (upd (τ k) 0 (τ o 0))) k (upd ((tw_sr τ k (upd (τ k) 0 (τ o 0))) k) 1 ((tw_sr τ k (upd (τ k) 0 (τ o 0))) o 1))) o 2))) k (upd ((tw_sr (tw_sr (tw_sr τ k (upd (τ k) 0 (τ o 0))) k (upd ((tw_sr τ k (upd (τ k) 0 (τ o 0))) k) 1 ((tw_sr τ k (upd (τ k) 0 (τ o 0))) o 1))) k (upd ((tw_sr (tw_sr τ k (upd (τ k) 0 (τ o 0))) k (upd ((tw_sr τ k (upd (τ k) 0 (τ o 0))) k) 1 ((tw_sr τ k (upd (τ k) 0 (τ o 0))) o 1))) k) 2 ((tw_sr (tw_sr τ k (upd (τ k) 0 (τ o 0))) k (upd ((tw_sr τ k (upd (τ k) 0 (τ o 0))) k) 1 ((tw_sr τ k (upd (τ k) 0 (τ o 0))) o 1))) o 2))) k) 3 ((tw_sr (tw_sr (tw_sr τ k (upd (τ k) 0 (τ o 0))) k (upd ((tw_sr τ k (upd (τ k) 0 (τ o 0))) k) 1 ((tw_sr τ k (upd (τ k) 0 (τ o 0))) o 1))) k (upd ((tw_sr (tw_sr τ k (upd (τ k) 0 (τ o 0))) k (upd ((tw_sr τ k (upd (τ k) 0 (τ o 0))) k) 1 ((tw_sr τ k (upd (τ k) 0 (τ o 0))) o 1))) k) 2 ((tw_sr (tw_sr τ k (upd (τ k) 0 (τ o 0))) k (upd ((tw_sr τ k (upd (τ k) 0 (τ o 0))) k) 1 ((tw_sr τ k (upd (τ k) 0 (τ o 0))) o 1))) o 2))) o 3))) k (upd ((tw_sr (tw_sr (tw_sr (tw_sr τ k (upd (τ k) 0 (τ o 0))) k (upd ((tw_sr τ k (upd (τ k) 0 (τ o 0))) k) 1 ((tw_sr τ k (upd (τ k) 0 (τ o 0))) o 1))) k (upd ((tw_sr (tw_sr τ k (upd (τ k) 0 (τ o 0))) k (upd ((tw_sr τ k (upd (τ k) 0 (τ o 0))) k) 1 ((tw_sr τ k (upd (τ k) 0 (τ o 0))) o 1))) k) 2 ((tw_sr (tw_sr τ k (upd (τ k) 0 (τ o 0))) k (upd ((tw_sr τ k (upd (τ k) 0 (τ o 0))) k) 1 ((tw_sr τ k (upd (τ k) 0 (τ o 0))) o 1))) o 2))) k (upd ((tw_sr (tw_sr (tw_sr τ k (upd (τ k) 0 (τ o 0))) k (upd ((tw_sr τ k (upd (τ k) 0 (τ o 0))) k) 1 ((tw_sr τ k (upd (τ k) 0 (τ o 0))) o 1))) k (upd ((tw_sr (tw_sr τ k (upd (τ k) 0 (τ o 0))) k (upd ((tw_sr τ k (upd (τ k) 0 (τ o 0))) k) 1 ((tw_sr τ k (upd (τ k) 0 (τ o 0))) o 1))) k) 2 ((tw_sr (tw_sr τ k (upd (τ k) 0 (τ o 0))) k (upd ((tw_sr τ k (upd (τ k) 0 (τ o 0))) k) 1 ((tw_sr τ k (upd (τ k) 0 (τ o 0))) o 1))) o 2))) k) 3 ((tw_sr (tw_sr (tw_sr τ k (upd (τ k) 0 (τ o 0))) k (upd ((tw_sr τ k (upd (τ k) 0 (τ o 0))) k) 1 ((tw_sr τ k (upd (τ k) 0 (τ o 0))) o 1))) k (upd ((tw_sr (tw_sr τ k (upd (τ k) 0 (τ o 0))) k (upd ((tw_sr τ k (upd (τ k) 0 (τ o 0))) k) 1 ((tw_sr τ k (upd (τ k) 0 (τ o 0))) o 1))) k) 2 ((tw_sr (tw_sr τ k (upd (τ k) 0 (τ o 0))) k (upd ((tw_sr τ k (upd (τ k) 0 (τ o 0))) k) 1 ((tw_sr τ k (upd (τ k) 0 (τ o 0))) o 1))) o 2))) o 3))) k) 4 ((tw_sr (tw_sr (tw_sr (tw_sr τ k (upd (τ k) 0 (τ o 0))) k (upd ((tw_sr τ k (upd (τ k) 0 (τ o 0))) k) 1 ((tw_sr τ k (upd (τ k) 0 (τ o 0))) o 1))) k (upd ((tw_sr (tw_sr τ k (upd (τ k) 0 (τ o 0))) k (upd ((tw_sr τ k (upd (τ k) 0 (τ o 0))) k) 1 ((tw_sr τ k (upd (τ k) 0 (τ o 0))) o 1))) k) 2 ((tw_sr (tw_sr τ k (upd (τ k) 0 (τ o 0))) k (upd ((tw_sr τ k (upd (τ k) 0 (τ o 0))) k) 1 ((tw_sr τ k (upd (τ k) 0 (τ o 0))) o 1))) o 2))) k (upd ((tw_sr (tw_sr (tw_sr τ k (upd (τ k) 0 (τ o 0))) k (upd ((tw_sr τ k (upd (τ k) 0 (τ o 0))) k) 1 ((tw_sr τ k (upd (τ k) 0 (τ o 0))) o 1))) k (upd ((tw_sr (tw_sr τ k (upd (τ k) 0 (τ o 0))) k (upd ((tw_sr τ k (upd (τ k) 0 (τ o 0))) k) 1 ((tw_sr τ k (upd (τ k) 0 (τ o 0))) o 1))) k) 2 ((tw_sr (tw_sr τ k (upd (τ k) 0 (τ o 0))) k (upd ((tw_sr τ k (upd (τ k) 0 (τ o 0))) k) 1 ((tw_sr τ k (upd (τ k) 0 (τ o 0))) o 1))) o 2))) k) 3 ((tw_sr (tw_sr (tw_sr τ k (upd (τ k) 0 (τ o 0))) k (upd ((tw_sr τ k (upd (τ k) 0 (τ o 0))) k) 1 ((tw_sr τ k (upd (τ k) 0 (τ o 0))) o 1))) k (upd ((tw_sr (tw_sr τ k (upd (τ k) 0 (τ o 0))) k (upd ((tw_sr τ k (upd (τ k) 0 (τ o 0))) k) 1 ((tw_sr τ k (upd (τ k) 0 (τ o 0))) o 1))) k) 2 ((tw_sr (tw_sr τ k (upd (τ k) 0 (τ o 0))) k (upd ((tw_sr τ k (upd (τ k) 0 (τ o 0))) k) 1 ((tw_sr τ k (upd (τ k) 0 (τ o 0))) o 1))) o 2))) o 3))) o 4))) k) 5 ((tw_sr (tw_sr (tw_sr (tw_sr (tw_sr τ k (upd (τ k) 0 (τ o 0))) k (upd ((tw_sr τ k (upd (τ k) 0 (τ o 0))) k) 1 ((tw_sr τ k (upd (τ k) 0 (τ o 0))) o 1))) k (upd ((tw_sr (tw_sr τ k (upd (τ k) 0 (τ o 0))) k (upd ((tw_sr τ k (upd (τ k) 0 (τ o 0))) k) 1 ((tw_sr τ k (upd (τ k) 0 (τ o 0))) o 1))) k) 2 ((tw_sr (tw_sr τ k (upd (τ k) 0 (τ o 0))) k (upd ((tw_sr τ k (upd (τ k) 0 (τ o 0))) k) 1 ((tw_sr τ k (upd (τ k) 0 (τ o 0))) o 1))) o 2))) k (upd ((tw_sr (tw_sr (tw_sr τ k (upd (τ k) 0 (τ o 0))) k (upd ((tw_sr τ k (upd (τ k) 0 (τ o 0))) k) 1 ((tw_sr τ k (upd (τ k) 0 (τ o 0))) o 1))) k (upd ((tw_sr (tw_sr τ k (upd (τ k) 0 (τ o 0))) k (upd ((tw_sr τ k (upd (τ k) 0 (τ o 0))) k) 1 ((tw_sr τ k (upd (τ k) 0 (τ o 0))) o 1))) k) 2 ((tw_sr (tw_sr τ k (upd (τ k) 0 (τ o 0))) k (upd ((tw_sr τ k (upd (τ k) 0 (τ o 0))) k) 1 ((tw_sr τ k (upd (τ k) 0 (τ o 0))) o 1))) o 2))) k) 3 ((tw_sr (tw_sr (tw_sr τ k (upd (τ k) 0 (τ o 0))) k (upd ((tw_sr τ k (upd (τ k) 0 (τ o 0))) k) 1 ((tw_sr τ k (upd (τ k) 0 (τ o 0))) o 1))) k (upd ((tw_sr (tw_sr τ k (upd (τ k) 0 (τ o 0))) k (upd ((tw_sr τ k (upd (τ k) 0 (τ o 0))) k) 1 ((tw_sr τ k (upd (τ k) 0 (τ o 0))) o 1))) k) 2 ((tw_sr (tw_sr τ k (upd (τ k) 0 (τ o 0))) k (upd ((tw_sr τ k (upd (τ k) 0 (τ o 0))) k) 1 ((tw_sr τ k (upd (τ k) 0 (τ o 0))) o 1))) o 2))) o 3))) k (upd ((tw_sr (tw_sr (tw_sr (tw_sr τ k (upd (τ k) 0 (τ o 0))) k (upd ((tw_sr τ k (upd (τ k) 0 (τ o 0))) k) 1 ((tw_sr τ k (upd (τ k) 0 (τ o 0))) o 1))) k (upd ((tw_sr (tw_sr τ k (upd (τ k) 0 (τ o 0))) k (upd ((tw_sr τ k (upd (τ k) 0 (τ o 0))) k) 1 ((tw_sr τ k (upd (τ k) 0 (τ o 0))) o 1))) k) 2 ((tw_sr (tw_sr τ k (upd (τ k) 0 (τ o 0))) k (upd ((tw_sr τ k (upd (τ k) 0 (τ o 0))) k) 1 ((tw_sr τ k (upd (τ k) 0 (τ o 0))) o 1))) o 2))) k (upd ((tw_sr (tw_sr (tw_sr τ k (upd (τ k) 0 (τ o 0))) k (upd ((tw_sr τ k (upd (τ k) 0 (τ o 0))) k) 1 ((tw_sr τ k (upd (τ k) 0 (τ o 0))) o 1))) k (upd ((tw_sr (tw_sr τ k (upd (τ k) 0 (τ o 0))) k (upd ((tw_sr τ k (upd (τ k) 0 (τ o 0))) k) 1 ((tw_sr τ k (upd (τ k) 0 (τ o 0))) o 1))) k) 2 ((tw_sr (tw_sr τ k (upd (τ k) 0 (τ o 0))) k (upd ((tw_sr τ k (upd (τ k) 0 (τ o 0))) k) 1 ((tw_sr τ k (upd (τ k) 0 (τ o 0))) o 1))) o 2))) k) 3 ((tw_sr (tw_sr (tw_sr τ k (upd (τ k) 0 (τ o 0))) k (upd ((tw_sr τ k (upd (τ k) 0 (τ o 0))) k) 1 ((tw_sr τ k (upd (τ k) 0 (τ o 0))) o 1))) k (upd ((tw_sr (tw_sr τ k (upd (τ k) 0 (τ o 0))) k (upd ((tw_sr τ k (upd (τ k) 0 (τ o 0))) k) 1 ((tw_sr τ k (upd (τ k) 0 (τ o 0))) o 1))) k) 2 ((tw_sr (tw_sr τ k (upd (τ k) 0 (τ o 0))) k (upd ((tw_sr τ k (upd (τ k) 0 (τ o 0))) k) 1 ((tw_sr τ k (upd (τ k) 0 (τ o 0))) o 1))) o 2))) o 3))) k) 4 ((tw_sr (tw_sr (tw_sr (tw_sr τ k (upd (τ k) 0 (τ o 0))) k (upd ((tw_sr τ k (upd (τ k) 0 (τ o 0))) k) 1 ((tw_sr τ k (upd (τ k) 0 (τ o 0))) o 1))) k (upd ((tw_sr (tw_sr τ k (upd (τ k) 0 (τ o 0))) k (upd ((tw_sr τ k (upd (τ k) 0 (τ o 0))) k) 1 ((tw_sr τ k (upd (τ k) 0 (τ o 0))) o 1))) k) 2 ((tw_sr (tw_sr τ k (upd (τ k) 0 (τ o 0))) k (upd ((tw_sr τ k (upd (τ k) 0 (τ o 0))) k) 1 ((tw_sr τ k (upd (τ k) 0 (τ o 0))) o 1))) o 2))) k (upd ((tw_sr (tw_sr (tw_sr τ k (upd (τ k) 0 (τ o 0))) k (upd ((tw_sr τ k (upd (τ k) 0 (τ o 0))) k) 1 ((tw_sr τ k (upd (τ k) 0 (τ o 0))) o 1))) k (upd ((tw_sr (tw_sr τ k (upd (τ k) 0 (τ o 0))) k (upd ((tw_sr τ k (upd (τ k) 0 (τ o 0))) k) 1 ((tw_sr τ k (upd (τ k) 0 (τ o 0))) o 1))) k) 2 ((tw_sr (tw_sr τ k (upd (τ k) 0 (τ o 0))) k (upd ((tw_sr τ k (upd (τ k) 0 (τ o 0))) k) 1 ((tw_sr τ k (upd (τ k) 0 (τ o 0))) o 1))) o 2))) k) 3 ((tw_sr (tw_sr (tw_sr τ k (upd (τ k) 0 (τ o 0))) k (upd ((tw_sr τ k (upd (τ k) 0 (τ o 0))) k) 1 ((tw_sr τ k (upd (τ k) 0 (τ o 0))) o 1))) k (upd ((tw_sr (tw_sr τ k (upd (τ k) 0 (τ o 0))) k (upd ((tw_sr τ k (upd (τ k) 0 (τ o 0))) k) 1 ((tw_sr τ k (upd (τ k) 0 (τ o 0))) o 1))) k) 2 ((tw_sr (tw_sr τ k (upd (τ k) 0 (τ o 0))) k (upd ((tw_sr τ k (upd (τ k) 0 (τ o 0))) k) 1 ((tw_sr τ k (upd (τ k) 0 (τ o 0))) o 1))) o 2))) o 3))) o 4))) o 5))) o 6))
theorem ct_X6_take {E : tw_E} {k : Nat} {o : Nat} (hk : tw_isK k 6 = true := by first | rfl | assumption) (ho : tw_isK o 6 = true := by first | rfl | assumption) {τ : tw_T} : tw_Cv E 1 mX6_take [.ref k, .ref o] τ (g_X6_take k o τ) := by
  have hlk0 : tw_lk k 0 = 0 := lk6 hk 0
  have hlk1 : tw_lk k 1 = 0 := lk6 hk 1
  have hlk2 : tw_lk k 2 = 0 := lk6 hk 2
  have hlk3 : tw_lk k 3 = 0 := lk6 hk 3
  have hlk4 : tw_lk k 4 = 0 := lk6 hk 4
  have hlk5 : tw_lk k 5 = 0 := lk6 hk 5
  have hlk6 : tw_lk k 6 = 0 := lk6 hk 6
  have hlo0 : tw_lk o 0 = 0 := lk6 ho 0
  have hlo1 : tw_lk o 1 = 0 := lk6 ho 1
  have hlo2 : tw_lk o 2 = 0 := lk6 ho 2
  have hlo3 : tw_lk o 3 = 0 := lk6 ho 3
  have hlo4 : tw_lk o 4 = 0 := lk6 ho 4
  have hlo5 : tw_lk o 5 = 0 := lk6 ho 5
  have hlo6 : tw_lk o 6 = 0 := lk6 ho 6
  refine ct_of (by decide) (by simp [Value.category]) (Nat.le_of_ble_eq_true rfl) (fun K hE F => ?_)
  subst hE
  refine rw_aload_n F dc_X6_take_0 rfl ?_
  refine rw_aload_n F dc_X6_take_1 rfl ?_
  refine rw_getI F dc_X6_take_2 fl_RX6_9 (by first | rfl | assumption) (by first | rfl | assumption) ?_
  refine rw_put F dc_X6_take_5 pf_RX6_9 (by first | rfl | assumption) (by first | rfl | assumption) rfl rfl ?_
  refine rw_aload_n F dc_X6_take_8 rfl ?_
  refine rw_aload_n F dc_X6_take_9 rfl ?_
  refine rw_getI F dc_X6_take_10 fl_RX6_15 (by first | rfl | assumption) (by first | rfl | assumption) ?_
  refine rw_put F dc_X6_take_13 pf_RX6_15 (by first | rfl | assumption) (by first | rfl | assumption) rfl rfl ?_
  refine rw_aload_n F dc_X6_take_16 rfl ?_
  refine rw_aload_n F dc_X6_take_17 rfl ?_
  refine rw_getI F dc_X6_take_18 fl_RX6_18 (by first | rfl | assumption) (by first | rfl | assumption) ?_
  refine rw_put F dc_X6_take_21 pf_RX6_18 (by first | rfl | assumption) (by first | rfl | assumption) rfl rfl ?_
  refine rw_aload_n F dc_X6_take_24 rfl ?_
  refine rw_aload_n F dc_X6_take_25 rfl ?_
  refine rw_getI F dc_X6_take_26 fl_RX6_21 (by first | rfl | assumption) (by first | rfl | assumption) ?_
  refine rw_put F dc_X6_take_29 pf_RX6_21 (by first | rfl | assumption) (by first | rfl | assumption) rfl rfl ?_
  refine rw_aload_n F dc_X6_take_32 rfl ?_
  refine rw_aload_n F dc_X6_take_33 rfl ?_
  refine rw_getI F dc_X6_take_34 fl_RX6_24 (by first | rfl | assumption) (by first | rfl | assumption) ?_
  refine rw_put F dc_X6_take_37 pf_RX6_24 (by first | rfl | assumption) (by first | rfl | assumption) rfl rfl ?_
  refine rw_aload_n F dc_X6_take_40 rfl ?_
  refine rw_aload_n F dc_X6_take_41 rfl ?_
  refine rw_getI F dc_X6_take_42 fl_RX6_27 (by first | rfl | assumption) (by first | rfl | assumption) ?_
  refine rw_put F dc_X6_take_45 pf_RX6_27 (by first | rfl | assumption) (by first | rfl | assumption) rfl rfl ?_
  refine rw_aload_n F dc_X6_take_48 rfl ?_
  refine rw_aload_n F dc_X6_take_49 rfl ?_
  refine rw_getI F dc_X6_take_50 fl_RX6_30 (by first | rfl | assumption) (by first | rfl | assumption) ?_
  refine rw_put F dc_X6_take_53 pf_RX6_30 (by first | rfl | assumption) (by first | rfl | assumption) rfl rfl ?_
  refine rw_vret F dc_X6_take_56 rfl ?_
  exact ⟨rfl, by first | rfl | (simp only [g_X6_take]; done) | (simp only [g_X6_take]; rfl)⟩
def g_X6_become (k : Nat) (what : Int32) (v : Int32) (τ : tw_T) : tw_T := if what = 0 then (tw_sr τ k (upd (τ k) 0 v)) else (if what = 1 then (tw_sr τ k (upd (τ k) 1 v)) else (if what = 2 then (tw_sr τ k (upd (τ k) 2 v)) else (if what = 3 then (tw_sr τ k (upd (τ k) 3 v)) else (if what = 4 then (tw_sr τ k (upd (τ k) 4 v)) else (if what = 5 then (tw_sr τ k (upd (τ k) 5 v)) else (tw_sr τ k (upd (τ k) 6 v)))))))
theorem ct_X6_become {E : tw_E} {k : Nat} {what : Int32} {v : Int32} (hk : tw_isK k 6 = true := by first | rfl | assumption) {τ : tw_T} : tw_Cv E 1 mX6_become [.ref k, .int what, .int v] τ (g_X6_become k what v τ) := by
  have hlk0 : tw_lk k 0 = 0 := lk6 hk 0
  have hlk1 : tw_lk k 1 = 0 := lk6 hk 1
  have hlk2 : tw_lk k 2 = 0 := lk6 hk 2
  have hlk3 : tw_lk k 3 = 0 := lk6 hk 3
  have hlk4 : tw_lk k 4 = 0 := lk6 hk 4
  have hlk5 : tw_lk k 5 = 0 := lk6 hk 5
  have hlk6 : tw_lk k 6 = 0 := lk6 hk 6
  refine ct_of (by decide) (by simp [Value.category]) (Nat.le_of_ble_eq_true rfl) (fun K hE F => ?_)
  subst hE
  refine rw_iload_n F dc_X6_become_0 rfl ?_
  refine rw_tswc (0) 0 40 F dc_X6_become_1 rfl rfl (by decide) (by decide) (fun c1_0 => ?_) (fun c1_0 => ?_)
  · refine rw_aload_n F dc_X6_become_40 rfl ?_
    refine rw_iload_n F dc_X6_become_41 rfl ?_
    refine rw_put F dc_X6_become_42 pf_RX6_9 (by first | rfl | assumption) (by first | rfl | assumption) rfl rfl ?_
    refine rw_goto (tgt := 93) F dc_X6_become_45 rfl ?_
    refine rw_vret F dc_X6_become_93 rfl ?_
    exact ⟨rfl, by first | rfl | (simp only [g_X6_become, if_pos c1_0]; done) | (simp only [g_X6_become, if_pos c1_0]; rfl)⟩
  refine rw_tswc (1) 1 48 F dc_X6_become_1 rfl rfl (by decide) (by decide) (fun c1_1 => ?_) (fun c1_1 => ?_)
  · refine rw_aload_n F dc_X6_become_48 rfl ?_
    refine rw_iload_n F dc_X6_become_49 rfl ?_
    refine rw_put F dc_X6_become_50 pf_RX6_15 (by first | rfl | assumption) (by first | rfl | assumption) rfl rfl ?_
    refine rw_goto (tgt := 93) F dc_X6_become_53 rfl ?_
    refine rw_vret F dc_X6_become_93 rfl ?_
    exact ⟨rfl, by first | rfl | (simp only [g_X6_become, if_neg c1_0, if_pos c1_1]; done) | (simp only [g_X6_become, if_neg c1_0, if_pos c1_1]; rfl)⟩
  refine rw_tswc (2) 2 56 F dc_X6_become_1 rfl rfl (by decide) (by decide) (fun c1_2 => ?_) (fun c1_2 => ?_)
  · refine rw_aload_n F dc_X6_become_56 rfl ?_
    refine rw_iload_n F dc_X6_become_57 rfl ?_
    refine rw_put F dc_X6_become_58 pf_RX6_18 (by first | rfl | assumption) (by first | rfl | assumption) rfl rfl ?_
    refine rw_goto (tgt := 93) F dc_X6_become_61 rfl ?_
    refine rw_vret F dc_X6_become_93 rfl ?_
    exact ⟨rfl, by first | rfl | (simp only [g_X6_become, if_neg c1_0, if_neg c1_1, if_pos c1_2]; done) | (simp only [g_X6_become, if_neg c1_0, if_neg c1_1, if_pos c1_2]; rfl)⟩
  refine rw_tswc (3) 3 64 F dc_X6_become_1 rfl rfl (by decide) (by decide) (fun c1_3 => ?_) (fun c1_3 => ?_)
  · refine rw_aload_n F dc_X6_become_64 rfl ?_
    refine rw_iload_n F dc_X6_become_65 rfl ?_
    refine rw_put F dc_X6_become_66 pf_RX6_21 (by first | rfl | assumption) (by first | rfl | assumption) rfl rfl ?_
    refine rw_goto (tgt := 93) F dc_X6_become_69 rfl ?_
    refine rw_vret F dc_X6_become_93 rfl ?_
    exact ⟨rfl, by first | rfl | (simp only [g_X6_become, if_neg c1_0, if_neg c1_1, if_neg c1_2, if_pos c1_3]; done) | (simp only [g_X6_become, if_neg c1_0, if_neg c1_1, if_neg c1_2, if_pos c1_3]; rfl)⟩
  refine rw_tswc (4) 4 72 F dc_X6_become_1 rfl rfl (by decide) (by decide) (fun c1_4 => ?_) (fun c1_4 => ?_)
  · refine rw_aload_n F dc_X6_become_72 rfl ?_
    refine rw_iload_n F dc_X6_become_73 rfl ?_
    refine rw_put F dc_X6_become_74 pf_RX6_24 (by first | rfl | assumption) (by first | rfl | assumption) rfl rfl ?_
    refine rw_goto (tgt := 93) F dc_X6_become_77 rfl ?_
    refine rw_vret F dc_X6_become_93 rfl ?_
    exact ⟨rfl, by first | rfl | (simp only [g_X6_become, if_neg c1_0, if_neg c1_1, if_neg c1_2, if_neg c1_3, if_pos c1_4]; done) | (simp only [g_X6_become, if_neg c1_0, if_neg c1_1, if_neg c1_2, if_neg c1_3, if_pos c1_4]; rfl)⟩
  refine rw_tswc (5) 5 80 F dc_X6_become_1 rfl rfl (by decide) (by decide) (fun c1_5 => ?_) (fun c1_5 => ?_)
  · refine rw_aload_n F dc_X6_become_80 rfl ?_
    refine rw_iload_n F dc_X6_become_81 rfl ?_
    refine rw_put F dc_X6_become_82 pf_RX6_27 (by first | rfl | assumption) (by first | rfl | assumption) rfl rfl ?_
    refine rw_goto (tgt := 93) F dc_X6_become_85 rfl ?_
    refine rw_vret F dc_X6_become_93 rfl ?_
    exact ⟨rfl, by first | rfl | (simp only [g_X6_become, if_neg c1_0, if_neg c1_1, if_neg c1_2, if_neg c1_3, if_neg c1_4, if_pos c1_5]; done) | (simp only [g_X6_become, if_neg c1_0, if_neg c1_1, if_neg c1_2, if_neg c1_3, if_neg c1_4, if_pos c1_5]; rfl)⟩
  refine rw_tsw F dc_X6_become_1 88 (Or.inl ⟨by have h0 := lv_neT c1_0 (a := 0) (by decide); have h1 := lv_neT c1_1 (a := 1) (by decide); have h2 := lv_neT c1_2 (a := 2) (by decide); have h3 := lv_neT c1_3 (a := 3) (by decide); have h4 := lv_neT c1_4 (a := 4) (by decide); have h5 := lv_neT c1_5 (a := 5) (by decide); omega, by decide⟩) ?_
  refine rw_aload_n F dc_X6_become_88 rfl ?_
  refine rw_iload_n F dc_X6_become_89 rfl ?_
  refine rw_put F dc_X6_become_90 pf_RX6_30 (by first | rfl | assumption) (by first | rfl | assumption) rfl rfl ?_
  refine rw_vret F dc_X6_become_93 rfl ?_
  exact ⟨rfl, by first | rfl | (simp only [g_X6_become, if_neg c1_0, if_neg c1_1, if_neg c1_2, if_neg c1_3, if_neg c1_4, if_neg c1_5]; done) | (simp only [g_X6_become, if_neg c1_0, if_neg c1_1, if_neg c1_2, if_neg c1_3, if_neg c1_4, if_neg c1_5]; rfl)⟩
def f_X6_told (k : Nat) (what : Int32) (τ : tw_T) : Int32 := if what = 0 then (τ k 0) else (if what = 1 then (τ k 1) else (if what = 2 then (τ k 2) else (if what = 3 then (τ k 3) else (if what = 4 then (τ k 4) else (if what = 5 then (τ k 5) else (τ k 6))))))
theorem ct_X6_told {E : tw_E} {k : Nat} {what : Int32} (hk : tw_isK k 6 = true := by first | rfl | assumption) {τ : tw_T} : tw_Ci E 1 mX6_told [.ref k, .int what] τ (f_X6_told k what τ) (τ) := by
  have hlk0 : tw_lk k 0 = 0 := lk6 hk 0
  have hlk1 : tw_lk k 1 = 0 := lk6 hk 1
  have hlk2 : tw_lk k 2 = 0 := lk6 hk 2
  have hlk3 : tw_lk k 3 = 0 := lk6 hk 3
  have hlk4 : tw_lk k 4 = 0 := lk6 hk 4
  have hlk5 : tw_lk k 5 = 0 := lk6 hk 5
  have hlk6 : tw_lk k 6 = 0 := lk6 hk 6
  refine ct_of (by decide) (by simp [Value.category]) (Nat.le_of_ble_eq_true rfl) (fun K hE F => ?_)
  subst hE
  refine rw_iload_n F dc_X6_told_0 rfl ?_
  refine rw_tswc (0) 0 40 F dc_X6_told_1 rfl rfl (by decide) (by decide) (fun c1_0 => ?_) (fun c1_0 => ?_)
  · refine rw_aload_n F dc_X6_told_40 rfl ?_
    refine rw_getI F dc_X6_told_41 fl_RX6_9 (by first | rfl | assumption) (by first | rfl | assumption) ?_
    refine rw_iret F dc_X6_told_44 rfl rfl ?_
    exact ⟨by first | rfl | (simp only [f_X6_told, if_pos c1_0]; done) | (simp only [f_X6_told, if_pos c1_0]; rfl), by first | rfl | (simp only [f_X6_told, if_pos c1_0]; done) | (simp only [f_X6_told, if_pos c1_0]; rfl)⟩
  refine rw_tswc (1) 1 45 F dc_X6_told_1 rfl rfl (by decide) (by decide) (fun c1_1 => ?_) (fun c1_1 => ?_)
  · refine rw_aload_n F dc_X6_told_45 rfl ?_
    refine rw_getI F dc_X6_told_46 fl_RX6_15 (by first | rfl | assumption) (by first | rfl | assumption) ?_
    refine rw_iret F dc_X6_told_49 rfl rfl ?_
    exact ⟨by first | rfl | (simp only [f_X6_told, if_neg c1_0, if_pos c1_1]; done) | (simp only [f_X6_told, if_neg c1_0, if_pos c1_1]; rfl), by first | rfl | (simp only [f_X6_told, if_neg c1_0, if_pos c1_1]; done) | (simp only [f_X6_told, if_neg c1_0, if_pos c1_1]; rfl)⟩
  refine rw_tswc (2) 2 50 F dc_X6_told_1 rfl rfl (by decide) (by decide) (fun c1_2 => ?_) (fun c1_2 => ?_)
  · refine rw_aload_n F dc_X6_told_50 rfl ?_
    refine rw_getI F dc_X6_told_51 fl_RX6_18 (by first | rfl | assumption) (by first | rfl | assumption) ?_
    refine rw_iret F dc_X6_told_54 rfl rfl ?_
    exact ⟨by first | rfl | (simp only [f_X6_told, if_neg c1_0, if_neg c1_1, if_pos c1_2]; done) | (simp only [f_X6_told, if_neg c1_0, if_neg c1_1, if_pos c1_2]; rfl), by first | rfl | (simp only [f_X6_told, if_neg c1_0, if_neg c1_1, if_pos c1_2]; done) | (simp only [f_X6_told, if_neg c1_0, if_neg c1_1, if_pos c1_2]; rfl)⟩
  refine rw_tswc (3) 3 55 F dc_X6_told_1 rfl rfl (by decide) (by decide) (fun c1_3 => ?_) (fun c1_3 => ?_)
  · refine rw_aload_n F dc_X6_told_55 rfl ?_
    refine rw_getI F dc_X6_told_56 fl_RX6_21 (by first | rfl | assumption) (by first | rfl | assumption) ?_
    refine rw_iret F dc_X6_told_59 rfl rfl ?_
    exact ⟨by first | rfl | (simp only [f_X6_told, if_neg c1_0, if_neg c1_1, if_neg c1_2, if_pos c1_3]; done) | (simp only [f_X6_told, if_neg c1_0, if_neg c1_1, if_neg c1_2, if_pos c1_3]; rfl), by first | rfl | (simp only [f_X6_told, if_neg c1_0, if_neg c1_1, if_neg c1_2, if_pos c1_3]; done) | (simp only [f_X6_told, if_neg c1_0, if_neg c1_1, if_neg c1_2, if_pos c1_3]; rfl)⟩
  refine rw_tswc (4) 4 60 F dc_X6_told_1 rfl rfl (by decide) (by decide) (fun c1_4 => ?_) (fun c1_4 => ?_)
  · refine rw_aload_n F dc_X6_told_60 rfl ?_
    refine rw_getI F dc_X6_told_61 fl_RX6_24 (by first | rfl | assumption) (by first | rfl | assumption) ?_
    refine rw_iret F dc_X6_told_64 rfl rfl ?_
    exact ⟨by first | rfl | (simp only [f_X6_told, if_neg c1_0, if_neg c1_1, if_neg c1_2, if_neg c1_3, if_pos c1_4]; done) | (simp only [f_X6_told, if_neg c1_0, if_neg c1_1, if_neg c1_2, if_neg c1_3, if_pos c1_4]; rfl), by first | rfl | (simp only [f_X6_told, if_neg c1_0, if_neg c1_1, if_neg c1_2, if_neg c1_3, if_pos c1_4]; done) | (simp only [f_X6_told, if_neg c1_0, if_neg c1_1, if_neg c1_2, if_neg c1_3, if_pos c1_4]; rfl)⟩
  refine rw_tswc (5) 5 65 F dc_X6_told_1 rfl rfl (by decide) (by decide) (fun c1_5 => ?_) (fun c1_5 => ?_)
  · refine rw_aload_n F dc_X6_told_65 rfl ?_
    refine rw_getI F dc_X6_told_66 fl_RX6_27 (by first | rfl | assumption) (by first | rfl | assumption) ?_
    refine rw_iret F dc_X6_told_69 rfl rfl ?_
    exact ⟨by first | rfl | (simp only [f_X6_told, if_neg c1_0, if_neg c1_1, if_neg c1_2, if_neg c1_3, if_neg c1_4, if_pos c1_5]; done) | (simp only [f_X6_told, if_neg c1_0, if_neg c1_1, if_neg c1_2, if_neg c1_3, if_neg c1_4, if_pos c1_5]; rfl), by first | rfl | (simp only [f_X6_told, if_neg c1_0, if_neg c1_1, if_neg c1_2, if_neg c1_3, if_neg c1_4, if_pos c1_5]; done) | (simp only [f_X6_told, if_neg c1_0, if_neg c1_1, if_neg c1_2, if_neg c1_3, if_neg c1_4, if_pos c1_5]; rfl)⟩
  refine rw_tsw F dc_X6_told_1 70 (Or.inl ⟨by have h0 := lv_neT c1_0 (a := 0) (by decide); have h1 := lv_neT c1_1 (a := 1) (by decide); have h2 := lv_neT c1_2 (a := 2) (by decide); have h3 := lv_neT c1_3 (a := 3) (by decide); have h4 := lv_neT c1_4 (a := 4) (by decide); have h5 := lv_neT c1_5 (a := 5) (by decide); omega, by decide⟩) ?_
  refine rw_aload_n F dc_X6_told_70 rfl ?_
  refine rw_getI F dc_X6_told_71 fl_RX6_30 (by first | rfl | assumption) (by first | rfl | assumption) ?_
  refine rw_iret F dc_X6_told_74 rfl rfl ?_
  exact ⟨by first | rfl | (simp only [f_X6_told, if_neg c1_0, if_neg c1_1, if_neg c1_2, if_neg c1_3, if_neg c1_4, if_neg c1_5]; done) | (simp only [f_X6_told, if_neg c1_0, if_neg c1_1, if_neg c1_2, if_neg c1_3, if_neg c1_4, if_neg c1_5]; rfl), by first | rfl | (simp only [f_X6_told, if_neg c1_0, if_neg c1_1, if_neg c1_2, if_neg c1_3, if_neg c1_4, if_neg c1_5]; done) | (simp only [f_X6_told, if_neg c1_0, if_neg c1_1, if_neg c1_2, if_neg c1_3, if_neg c1_4, if_neg c1_5]; rfl)⟩
def g_X6_move (k : Nat) (cells : Int32) (τ : tw_T) : tw_T := if (τ k 2) = 1 then (if cells ≤ 0 then (tw_sr τ k (upd (τ k) 1 (if 23 < ((τ k 1) + cells) then 23 else ((τ k 1) + cells)))) else (if ((tw_sr τ k (upd (τ k) 1 (if 23 < ((τ k 1) + cells) then 23 else ((τ k 1) + cells)))) k 1) = 0 then (tw_sr (tw_sr (tw_sr (tw_sr τ k (upd (τ k) 1 (if 23 < ((τ k 1) + cells) then 23 else ((τ k 1) + cells)))) k (upd ((tw_sr τ k (upd (τ k) 1 (if 23 < ((τ k 1) + cells) then 23 else ((τ k 1) + cells)))) k) 5 (if 9999 < (((tw_sr τ k (upd (τ k) 1 (if 23 < ((τ k 1) + cells) then 23 else ((τ k 1) + cells)))) k 5) + 1) then 9999 else (((tw_sr τ k (upd (τ k) 1 (if 23 < ((τ k 1) + cells) then 23 else ((τ k 1) + cells)))) k 5) + 1)))) k (upd ((tw_sr (tw_sr τ k (upd (τ k) 1 (if 23 < ((τ k 1) + cells) then 23 else ((τ k 1) + cells)))) k (upd ((tw_sr τ k (upd (τ k) 1 (if 23 < ((τ k 1) + cells) then 23 else ((τ k 1) + cells)))) k) 5 (if 9999 < (((tw_sr τ k (upd (τ k) 1 (if 23 < ((τ k 1) + cells) then 23 else ((τ k 1) + cells)))) k 5) + 1) then 9999 else (((tw_sr τ k (upd (τ k) 1 (if 23 < ((τ k 1) + cells) then 23 else ((τ k 1) + cells)))) k 5) + 1)))) k) 1 11)) k (upd ((tw_sr (tw_sr (tw_sr τ k (upd (τ k) 1 (if 23 < ((τ k 1) + cells) then 23 else ((τ k 1) + cells)))) k (upd ((tw_sr τ k (upd (τ k) 1 (if 23 < ((τ k 1) + cells) then 23 else ((τ k 1) + cells)))) k) 5 (if 9999 < (((tw_sr τ k (upd (τ k) 1 (if 23 < ((τ k 1) + cells) then 23 else ((τ k 1) + cells)))) k 5) + 1) then 9999 else (((tw_sr τ k (upd (τ k) 1 (if 23 < ((τ k 1) + cells) then 23 else ((τ k 1) + cells)))) k 5) + 1)))) k (upd ((tw_sr (tw_sr τ k (upd (τ k) 1 (if 23 < ((τ k 1) + cells) then 23 else ((τ k 1) + cells)))) k (upd ((tw_sr τ k (upd (τ k) 1 (if 23 < ((τ k 1) + cells) then 23 else ((τ k 1) + cells)))) k) 5 (if 9999 < (((tw_sr τ k (upd (τ k) 1 (if 23 < ((τ k 1) + cells) then 23 else ((τ k 1) + cells)))) k 5) + 1) then 9999 else (((tw_sr τ k (upd (τ k) 1 (if 23 < ((τ k 1) + cells) then 23 else ((τ k 1) + cells)))) k 5) + 1)))) k) 1 11)) k) 2 (1 - ((tw_sr (tw_sr (tw_sr τ k (upd (τ k) 1 (if 23 < ((τ k 1) + cells) then 23 else ((τ k 1) + cells)))) k (upd ((tw_sr τ k (upd (τ k) 1 (if 23 < ((τ k 1) + cells) then 23 else ((τ k 1) + cells)))) k) 5 (if 9999 < (((tw_sr τ k (upd (τ k) 1 (if 23 < ((τ k 1) + cells) then 23 else ((τ k 1) + cells)))) k 5) + 1) then 9999 else (((tw_sr τ k (upd (τ k) 1 (if 23 < ((τ k 1) + cells) then 23 else ((τ k 1) + cells)))) k 5) + 1)))) k (upd ((tw_sr (tw_sr τ k (upd (τ k) 1 (if 23 < ((τ k 1) + cells) then 23 else ((τ k 1) + cells)))) k (upd ((tw_sr τ k (upd (τ k) 1 (if 23 < ((τ k 1) + cells) then 23 else ((τ k 1) + cells)))) k) 5 (if 9999 < (((tw_sr τ k (upd (τ k) 1 (if 23 < ((τ k 1) + cells) then 23 else ((τ k 1) + cells)))) k 5) + 1) then 9999 else (((tw_sr τ k (upd (τ k) 1 (if 23 < ((τ k 1) + cells) then 23 else ((τ k 1) + cells)))) k 5) + 1)))) k) 1 11)) k 2)))) else (if ((tw_sr τ k (upd (τ k) 1 (if 23 < ((τ k 1) + cells) then 23 else ((τ k 1) + cells)))) k 1) = 23 then (tw_sr (tw_sr (tw_sr (tw_sr τ k (upd (τ k) 1 (if 23 < ((τ k 1) + cells) then 23 else ((τ k 1) + cells)))) k (upd ((tw_sr τ k (upd (τ k) 1 (if 23 < ((τ k 1) + cells) then 23 else ((τ k 1) + cells)))) k) 5 (if 9999 < (((tw_sr τ k (upd (τ k) 1 (if 23 < ((τ k 1) + cells) then 23 else ((τ k 1) + cells)))) k 5) + 1) then 9999 else (((tw_sr τ k (upd (τ k) 1 (if 23 < ((τ k 1) + cells) then 23 else ((τ k 1) + cells)))) k 5) + 1)))) k (upd ((tw_sr (tw_sr τ k (upd (τ k) 1 (if 23 < ((τ k 1) + cells) then 23 else ((τ k 1) + cells)))) k (upd ((tw_sr τ k (upd (τ k) 1 (if 23 < ((τ k 1) + cells) then 23 else ((τ k 1) + cells)))) k) 5 (if 9999 < (((tw_sr τ k (upd (τ k) 1 (if 23 < ((τ k 1) + cells) then 23 else ((τ k 1) + cells)))) k 5) + 1) then 9999 else (((tw_sr τ k (upd (τ k) 1 (if 23 < ((τ k 1) + cells) then 23 else ((τ k 1) + cells)))) k 5) + 1)))) k) 1 11)) k (upd ((tw_sr (tw_sr (tw_sr τ k (upd (τ k) 1 (if 23 < ((τ k 1) + cells) then 23 else ((τ k 1) + cells)))) k (upd ((tw_sr τ k (upd (τ k) 1 (if 23 < ((τ k 1) + cells) then 23 else ((τ k 1) + cells)))) k) 5 (if 9999 < (((tw_sr τ k (upd (τ k) 1 (if 23 < ((τ k 1) + cells) then 23 else ((τ k 1) + cells)))) k 5) + 1) then 9999 else (((tw_sr τ k (upd (τ k) 1 (if 23 < ((τ k 1) + cells) then 23 else ((τ k 1) + cells)))) k 5) + 1)))) k (upd ((tw_sr (tw_sr τ k (upd (τ k) 1 (if 23 < ((τ k 1) + cells) then 23 else ((τ k 1) + cells)))) k (upd ((tw_sr τ k (upd (τ k) 1 (if 23 < ((τ k 1) + cells) then 23 else ((τ k 1) + cells)))) k) 5 (if 9999 < (((tw_sr τ k (upd (τ k) 1 (if 23 < ((τ k 1) + cells) then 23 else ((τ k 1) + cells)))) k 5) + 1) then 9999 else (((tw_sr τ k (upd (τ k) 1 (if 23 < ((τ k 1) + cells) then 23 else ((τ k 1) + cells)))) k 5) + 1)))) k) 1 11)) k) 2 (1 - ((tw_sr (tw_sr (tw_sr τ k (upd (τ k) 1 (if 23 < ((τ k 1) + cells) then 23 else ((τ k 1) + cells)))) k (upd ((tw_sr τ k (upd (τ k) 1 (if 23 < ((τ k 1) + cells) then 23 else ((τ k 1) + cells)))) k) 5 (if 9999 < (((tw_sr τ k (upd (τ k) 1 (if 23 < ((τ k 1) + cells) then 23 else ((τ k 1) + cells)))) k 5) + 1) then 9999 else (((tw_sr τ k (upd (τ k) 1 (if 23 < ((τ k 1) + cells) then 23 else ((τ k 1) + cells)))) k 5) + 1)))) k (upd ((tw_sr (tw_sr τ k (upd (τ k) 1 (if 23 < ((τ k 1) + cells) then 23 else ((τ k 1) + cells)))) k (upd ((tw_sr τ k (upd (τ k) 1 (if 23 < ((τ k 1) + cells) then 23 else ((τ k 1) + cells)))) k) 5 (if 9999 < (((tw_sr τ k (upd (τ k) 1 (if 23 < ((τ k 1) + cells) then 23 else ((τ k 1) + cells)))) k 5) + 1) then 9999 else (((tw_sr τ k (upd (τ k) 1 (if 23 < ((τ k 1) + cells) then 23 else ((τ k 1) + cells)))) k 5) + 1)))) k) 1 11)) k 2)))) else (tw_sr τ k (upd (τ k) 1 (if 23 < ((τ k 1) + cells) then 23 else ((τ k 1) + cells))))))) else (if cells ≤ 0 then (tw_sr τ k (upd (τ k) 1 (if ((τ k 1) - cells) < 0 then 0 else ((τ k 1) - cells)))) else (if ((tw_sr τ k (upd (τ k) 1 (if ((τ k 1) - cells) < 0 then 0 else ((τ k 1) - cells)))) k 1) = 0 then (tw_sr (tw_sr (tw_sr (tw_sr τ k (upd (τ k) 1 (if ((τ k 1) - cells) < 0 then 0 else ((τ k 1) - cells)))) k (upd ((tw_sr τ k (upd (τ k) 1 (if ((τ k 1) - cells) < 0 then 0 else ((τ k 1) - cells)))) k) 5 (if 9999 < (((tw_sr τ k (upd (τ k) 1 (if ((τ k 1) - cells) < 0 then 0 else ((τ k 1) - cells)))) k 5) + 1) then 9999 else (((tw_sr τ k (upd (τ k) 1 (if ((τ k 1) - cells) < 0 then 0 else ((τ k 1) - cells)))) k 5) + 1)))) k (upd ((tw_sr (tw_sr τ k (upd (τ k) 1 (if ((τ k 1) - cells) < 0 then 0 else ((τ k 1) - cells)))) k (upd ((tw_sr τ k (upd (τ k) 1 (if ((τ k 1) - cells) < 0 then 0 else ((τ k 1) - cells)))) k) 5 (if 9999 < (((tw_sr τ k (upd (τ k) 1 (if ((τ k 1) - cells) < 0 then 0 else ((τ k 1) - cells)))) k 5) + 1) then 9999 else (((tw_sr τ k (upd (τ k) 1 (if ((τ k 1) - cells) < 0 then 0 else ((τ k 1) - cells)))) k 5) + 1)))) k) 1 11)) k (upd ((tw_sr (tw_sr (tw_sr τ k (upd (τ k) 1 (if ((τ k 1) - cells) < 0 then 0 else ((τ k 1) - cells)))) k (upd ((tw_sr τ k (upd (τ k) 1 (if ((τ k 1) - cells) < 0 then 0 else ((τ k 1) - cells)))) k) 5 (if 9999 < (((tw_sr τ k (upd (τ k) 1 (if ((τ k 1) - cells) < 0 then 0 else ((τ k 1) - cells)))) k 5) + 1) then 9999 else (((tw_sr τ k (upd (τ k) 1 (if ((τ k 1) - cells) < 0 then 0 else ((τ k 1) - cells)))) k 5) + 1)))) k (upd ((tw_sr (tw_sr τ k (upd (τ k) 1 (if ((τ k 1) - cells) < 0 then 0 else ((τ k 1) - cells)))) k (upd ((tw_sr τ k (upd (τ k) 1 (if ((τ k 1) - cells) < 0 then 0 else ((τ k 1) - cells)))) k) 5 (if 9999 < (((tw_sr τ k (upd (τ k) 1 (if ((τ k 1) - cells) < 0 then 0 else ((τ k 1) - cells)))) k 5) + 1) then 9999 else (((tw_sr τ k (upd (τ k) 1 (if ((τ k 1) - cells) < 0 then 0 else ((τ k 1) - cells)))) k 5) + 1)))) k) 1 11)) k) 2 (1 - ((tw_sr (tw_sr (tw_sr τ k (upd (τ k) 1 (if ((τ k 1) - cells) < 0 then 0 else ((τ k 1) - cells)))) k (upd ((tw_sr τ k (upd (τ k) 1 (if ((τ k 1) - cells) < 0 then 0 else ((τ k 1) - cells)))) k) 5 (if 9999 < (((tw_sr τ k (upd (τ k) 1 (if ((τ k 1) - cells) < 0 then 0 else ((τ k 1) - cells)))) k 5) + 1) then 9999 else (((tw_sr τ k (upd (τ k) 1 (if ((τ k 1) - cells) < 0 then 0 else ((τ k 1) - cells)))) k 5) + 1)))) k (upd ((tw_sr (tw_sr τ k (upd (τ k) 1 (if ((τ k 1) - cells) < 0 then 0 else ((τ k 1) - cells)))) k (upd ((tw_sr τ k (upd (τ k) 1 (if ((τ k 1) - cells) < 0 then 0 else ((τ k 1) - cells)))) k) 5 (if 9999 < (((tw_sr τ k (upd (τ k) 1 (if ((τ k 1) - cells) < 0 then 0 else ((τ k 1) - cells)))) k 5) + 1) then 9999 else (((tw_sr τ k (upd (τ k) 1 (if ((τ k 1) - cells) < 0 then 0 else ((τ k 1) - cells)))) k 5) + 1)))) k) 1 11)) k 2)))) else (if ((tw_sr τ k (upd (τ k) 1 (if ((τ k 1) - cells) < 0 then 0 else ((τ k 1) - cells)))) k 1) = 23 then (tw_sr (tw_sr (tw_sr (tw_sr τ k (upd (τ k) 1 (if ((τ k 1) - cells) < 0 then 0 else ((τ k 1) - cells)))) k (upd ((tw_sr τ k (upd (τ k) 1 (if ((τ k 1) - cells) < 0 then 0 else ((τ k 1) - cells)))) k) 5 (if 9999 < (((tw_sr τ k (upd (τ k) 1 (if ((τ k 1) - cells) < 0 then 0 else ((τ k 1) - cells)))) k 5) + 1) then 9999 else (((tw_sr τ k (upd (τ k) 1 (if ((τ k 1) - cells) < 0 then 0 else ((τ k 1) - cells)))) k 5) + 1)))) k (upd ((tw_sr (tw_sr τ k (upd (τ k) 1 (if ((τ k 1) - cells) < 0 then 0 else ((τ k 1) - cells)))) k (upd ((tw_sr τ k (upd (τ k) 1 (if ((τ k 1) - cells) < 0 then 0 else ((τ k 1) - cells)))) k) 5 (if 9999 < (((tw_sr τ k (upd (τ k) 1 (if ((τ k 1) - cells) < 0 then 0 else ((τ k 1) - cells)))) k 5) + 1) then 9999 else (((tw_sr τ k (upd (τ k) 1 (if ((τ k 1) - cells) < 0 then 0 else ((τ k 1) - cells)))) k 5) + 1)))) k) 1 11)) k (upd ((tw_sr (tw_sr (tw_sr τ k (upd (τ k) 1 (if ((τ k 1) - cells) < 0 then 0 else ((τ k 1) - cells)))) k (upd ((tw_sr τ k (upd (τ k) 1 (if ((τ k 1) - cells) < 0 then 0 else ((τ k 1) - cells)))) k) 5 (if 9999 < (((tw_sr τ k (upd (τ k) 1 (if ((τ k 1) - cells) < 0 then 0 else ((τ k 1) - cells)))) k 5) + 1) then 9999 else (((tw_sr τ k (upd (τ k) 1 (if ((τ k 1) - cells) < 0 then 0 else ((τ k 1) - cells)))) k 5) + 1)))) k (upd ((tw_sr (tw_sr τ k (upd (τ k) 1 (if ((τ k 1) - cells) < 0 then 0 else ((τ k 1) - cells)))) k (upd ((tw_sr τ k (upd (τ k) 1 (if ((τ k 1) - cells) < 0 then 0 else ((τ k 1) - cells)))) k) 5 (if 9999 < (((tw_sr τ k (upd (τ k) 1 (if ((τ k 1) - cells) < 0 then 0 else ((τ k 1) - cells)))) k 5) + 1) then 9999 else (((tw_sr τ k (upd (τ k) 1 (if ((τ k 1) - cells) < 0 then 0 else ((τ k 1) - cells)))) k 5) + 1)))) k) 1 11)) k) 2 (1 - ((tw_sr (tw_sr (tw_sr τ k (upd (τ k) 1 (if ((τ k 1) - cells) < 0 then 0 else ((τ k 1) - cells)))) k (upd ((tw_sr τ k (upd (τ k) 1 (if ((τ k 1) - cells) < 0 then 0 else ((τ k 1) - cells)))) k) 5 (if 9999 < (((tw_sr τ k (upd (τ k) 1 (if ((τ k 1) - cells) < 0 then 0 else ((τ k 1) - cells)))) k 5) + 1) then 9999 else (((tw_sr τ k (upd (τ k) 1 (if ((τ k 1) - cells) < 0 then 0 else ((τ k 1) - cells)))) k 5) + 1)))) k (upd ((tw_sr (tw_sr τ k (upd (τ k) 1 (if ((τ k 1) - cells) < 0 then 0 else ((τ k 1) - cells)))) k (upd ((tw_sr τ k (upd (τ k) 1 (if ((τ k 1) - cells) < 0 then 0 else ((τ k 1) - cells)))) k) 5 (if 9999 < (((tw_sr τ k (upd (τ k) 1 (if ((τ k 1) - cells) < 0 then 0 else ((τ k 1) - cells)))) k 5) + 1) then 9999 else (((tw_sr τ k (upd (τ k) 1 (if ((τ k 1) - cells) < 0 then 0 else ((τ k 1) - cells)))) k 5) + 1)))) k) 1 11)) k 2)))) else (tw_sr τ k (upd (τ k) 1 (if ((τ k 1) - cells) < 0 then 0 else ((τ k 1) - cells)))))))
theorem ct_X6_move {E : tw_E} {k : Nat} {cells : Int32} (hk : tw_isK k 6 = true := by first | rfl | assumption) {τ : tw_T} : tw_Cv E 1 mX6_move [.ref k, .int cells] τ (g_X6_move k cells τ) := by
  have hlk0 : tw_lk k 0 = 0 := lk6 hk 0
  have hlk1 : tw_lk k 1 = 0 := lk6 hk 1
  have hlk2 : tw_lk k 2 = 0 := lk6 hk 2
  have hlk3 : tw_lk k 3 = 0 := lk6 hk 3
  have hlk4 : tw_lk k 4 = 0 := lk6 hk 4
  have hlk5 : tw_lk k 5 = 0 := lk6 hk 5
  have hlk6 : tw_lk k 6 = 0 := lk6 hk 6
  refine ct_of (by decide) (by simp [Value.category]) (Nat.le_of_ble_eq_true rfl) (fun K hE F => ?_)
  subst hE
  refine rw_aload_n F dc_X6_move_0 rfl ?_
  refine rw_aload_n F dc_X6_move_1 rfl ?_
  refine rw_getI F dc_X6_move_2 fl_RX6_18 (by first | rfl | assumption) (by first | rfl | assumption) ?_
  refine rw_iconst (v := 1) F dc_X6_move_5 rfl ?_
  refine rw_icmp_ne (tgt := 23) F dc_X6_move_6 rfl (fun c1 => ?_) (fun c1 => ?_)
  · refine rw_aload_n F dc_X6_move_23 rfl ?_
    refine rw_getI F dc_X6_move_24 fl_RX6_15 (by first | rfl | assumption) (by first | rfl | assumption) ?_
    refine rw_iload_n F dc_X6_move_27 rfl ?_
    refine rw_isub F dc_X6_move_28 ?_
    refine rw_iconst (v := 0) F dc_X6_move_29 rfl ?_
    refine rw_max F dc_X6_move_30 ml_RX6_75 (by decide) (Nat.le_of_ble_eq_true rfl) wm_max_s wm_i wm_max_c ?_
    refine rw_put F dc_X6_move_33 pf_RX6_15 (by first | rfl | assumption) (by first | rfl | assumption) rfl rfl ?_
    refine rw_iload_n F dc_X6_move_36 rfl ?_
    refine rw_if_le (tgt := 88) F dc_X6_move_37 rfl (fun c2 => ?_) (fun c2 => ?_)
    · refine rw_vret F dc_X6_move_88 rfl ?_
      exact ⟨rfl, by first | rfl | (simp only [g_X6_move, if_neg c1, if_pos c2]; done) | (simp only [g_X6_move, if_neg c1, if_pos c2]; rfl)⟩
    · refine rw_aload_n F dc_X6_move_40 rfl ?_
      refine rw_getI F dc_X6_move_41 fl_RX6_15 (by first | rfl | assumption) (by first | rfl | assumption) ?_
      refine rw_if_eq (tgt := 56) F dc_X6_move_44 rfl (fun c3 => ?_) (fun c3 => ?_)
      · refine rw_aload_n F dc_X6_move_56 rfl ?_
        refine rw_aload_n F dc_X6_move_57 rfl ?_
        refine rw_getI F dc_X6_move_58 fl_RX6_27 (by first | rfl | assumption) (by first | rfl | assumption) ?_
        refine rw_iconst (v := 1) F dc_X6_move_61 rfl ?_
        refine rw_iadd F dc_X6_move_62 ?_
        refine rw_sipush (v := 9999) F dc_X6_move_63 rfl ?_
        refine rw_min F dc_X6_move_66 ml_RX6_51 (by decide) (Nat.le_of_ble_eq_true rfl) wm_min_s wm_i wm_min_c ?_
        refine rw_put F dc_X6_move_69 pf_RX6_27 (by first | rfl | assumption) (by first | rfl | assumption) rfl rfl ?_
        refine rw_aload_n F dc_X6_move_72 rfl ?_
        refine rw_bipush (v := 11) F dc_X6_move_73 rfl ?_
        refine rw_put F dc_X6_move_75 pf_RX6_15 (by first | rfl | assumption) (by first | rfl | assumption) rfl rfl ?_
        refine rw_aload_n F dc_X6_move_78 rfl ?_
        refine rw_iconst (v := 1) F dc_X6_move_79 rfl ?_
        refine rw_aload_n F dc_X6_move_80 rfl ?_
        refine rw_getI F dc_X6_move_81 fl_RX6_18 (by first | rfl | assumption) (by first | rfl | assumption) ?_
        refine rw_isub F dc_X6_move_84 ?_
        refine rw_put F dc_X6_move_85 pf_RX6_18 (by first | rfl | assumption) (by first | rfl | assumption) rfl rfl ?_
        refine rw_vret F dc_X6_move_88 rfl ?_
        exact ⟨rfl, by first | rfl | (simp only [g_X6_move, if_neg c1, if_neg c2, if_pos c3]; done) | (simp only [g_X6_move, if_neg c1, if_neg c2, if_pos c3]; rfl)⟩
      · refine rw_aload_n F dc_X6_move_47 rfl ?_
        refine rw_getI F dc_X6_move_48 fl_RX6_15 (by first | rfl | assumption) (by first | rfl | assumption) ?_
        refine rw_bipush (v := 23) F dc_X6_move_51 rfl ?_
        refine rw_icmp_ne (tgt := 88) F dc_X6_move_53 rfl (fun c4 => ?_) (fun c4 => ?_)
        · refine rw_vret F dc_X6_move_88 rfl ?_
          exact ⟨rfl, by first | rfl | (simp only [g_X6_move, if_neg c1, if_neg c2, if_neg c3, if_neg c4]; done) | (simp only [g_X6_move, if_neg c1, if_neg c2, if_neg c3, if_neg c4]; rfl)⟩
        · refine rw_aload_n F dc_X6_move_56 rfl ?_
          refine rw_aload_n F dc_X6_move_57 rfl ?_
          refine rw_getI F dc_X6_move_58 fl_RX6_27 (by first | rfl | assumption) (by first | rfl | assumption) ?_
          refine rw_iconst (v := 1) F dc_X6_move_61 rfl ?_
          refine rw_iadd F dc_X6_move_62 ?_
          refine rw_sipush (v := 9999) F dc_X6_move_63 rfl ?_
          refine rw_min F dc_X6_move_66 ml_RX6_51 (by decide) (Nat.le_of_ble_eq_true rfl) wm_min_s wm_i wm_min_c ?_
          refine rw_put F dc_X6_move_69 pf_RX6_27 (by first | rfl | assumption) (by first | rfl | assumption) rfl rfl ?_
          refine rw_aload_n F dc_X6_move_72 rfl ?_
          refine rw_bipush (v := 11) F dc_X6_move_73 rfl ?_
          refine rw_put F dc_X6_move_75 pf_RX6_15 (by first | rfl | assumption) (by first | rfl | assumption) rfl rfl ?_
          refine rw_aload_n F dc_X6_move_78 rfl ?_
          refine rw_iconst (v := 1) F dc_X6_move_79 rfl ?_
          refine rw_aload_n F dc_X6_move_80 rfl ?_
          refine rw_getI F dc_X6_move_81 fl_RX6_18 (by first | rfl | assumption) (by first | rfl | assumption) ?_
          refine rw_isub F dc_X6_move_84 ?_
          refine rw_put F dc_X6_move_85 pf_RX6_18 (by first | rfl | assumption) (by first | rfl | assumption) rfl rfl ?_
          refine rw_vret F dc_X6_move_88 rfl ?_
          exact ⟨rfl, by first | rfl | (simp only [g_X6_move, if_neg c1, if_neg c2, if_neg c3, if_pos c4]; done) | (simp only [g_X6_move, if_neg c1, if_neg c2, if_neg c3, if_pos c4]; rfl)⟩
  · refine rw_aload_n F dc_X6_move_9 rfl ?_
    refine rw_getI F dc_X6_move_10 fl_RX6_15 (by first | rfl | assumption) (by first | rfl | assumption) ?_
    refine rw_iload_n F dc_X6_move_13 rfl ?_
    refine rw_iadd F dc_X6_move_14 ?_
    refine rw_bipush (v := 23) F dc_X6_move_15 rfl ?_
    refine rw_min F dc_X6_move_17 ml_RX6_51 (by decide) (Nat.le_of_ble_eq_true rfl) wm_min_s wm_i wm_min_c ?_
    refine rw_goto (tgt := 33) F dc_X6_move_20 rfl ?_
    refine rw_put F dc_X6_move_33 pf_RX6_15 (by first | rfl | assumption) (by first | rfl | assumption) rfl rfl ?_
    refine rw_iload_n F dc_X6_move_36 rfl ?_
    refine rw_if_le (tgt := 88) F dc_X6_move_37 rfl (fun c5 => ?_) (fun c5 => ?_)
    · refine rw_vret F dc_X6_move_88 rfl ?_
      exact ⟨rfl, by first | rfl | (simp only [g_X6_move, if_pos c1, if_pos c5]; done) | (simp only [g_X6_move, if_pos c1, if_pos c5]; rfl)⟩
    · refine rw_aload_n F dc_X6_move_40 rfl ?_
      refine rw_getI F dc_X6_move_41 fl_RX6_15 (by first | rfl | assumption) (by first | rfl | assumption) ?_
      refine rw_if_eq (tgt := 56) F dc_X6_move_44 rfl (fun c6 => ?_) (fun c6 => ?_)
      · refine rw_aload_n F dc_X6_move_56 rfl ?_
        refine rw_aload_n F dc_X6_move_57 rfl ?_
        refine rw_getI F dc_X6_move_58 fl_RX6_27 (by first | rfl | assumption) (by first | rfl | assumption) ?_
        refine rw_iconst (v := 1) F dc_X6_move_61 rfl ?_
        refine rw_iadd F dc_X6_move_62 ?_
        refine rw_sipush (v := 9999) F dc_X6_move_63 rfl ?_
        refine rw_min F dc_X6_move_66 ml_RX6_51 (by decide) (Nat.le_of_ble_eq_true rfl) wm_min_s wm_i wm_min_c ?_
        refine rw_put F dc_X6_move_69 pf_RX6_27 (by first | rfl | assumption) (by first | rfl | assumption) rfl rfl ?_
        refine rw_aload_n F dc_X6_move_72 rfl ?_
        refine rw_bipush (v := 11) F dc_X6_move_73 rfl ?_
        refine rw_put F dc_X6_move_75 pf_RX6_15 (by first | rfl | assumption) (by first | rfl | assumption) rfl rfl ?_
        refine rw_aload_n F dc_X6_move_78 rfl ?_
        refine rw_iconst (v := 1) F dc_X6_move_79 rfl ?_
        refine rw_aload_n F dc_X6_move_80 rfl ?_
        refine rw_getI F dc_X6_move_81 fl_RX6_18 (by first | rfl | assumption) (by first | rfl | assumption) ?_
        refine rw_isub F dc_X6_move_84 ?_
        refine rw_put F dc_X6_move_85 pf_RX6_18 (by first | rfl | assumption) (by first | rfl | assumption) rfl rfl ?_
        refine rw_vret F dc_X6_move_88 rfl ?_
        exact ⟨rfl, by first | rfl | (simp only [g_X6_move, if_pos c1, if_neg c5, if_pos c6]; done) | (simp only [g_X6_move, if_pos c1, if_neg c5, if_pos c6]; rfl)⟩
      · refine rw_aload_n F dc_X6_move_47 rfl ?_
        refine rw_getI F dc_X6_move_48 fl_RX6_15 (by first | rfl | assumption) (by first | rfl | assumption) ?_
        refine rw_bipush (v := 23) F dc_X6_move_51 rfl ?_
        refine rw_icmp_ne (tgt := 88) F dc_X6_move_53 rfl (fun c7 => ?_) (fun c7 => ?_)
        · refine rw_vret F dc_X6_move_88 rfl ?_
          exact ⟨rfl, by first | rfl | (simp only [g_X6_move, if_pos c1, if_neg c5, if_neg c6, if_neg c7]; done) | (simp only [g_X6_move, if_pos c1, if_neg c5, if_neg c6, if_neg c7]; rfl)⟩
        · refine rw_aload_n F dc_X6_move_56 rfl ?_
          refine rw_aload_n F dc_X6_move_57 rfl ?_
          refine rw_getI F dc_X6_move_58 fl_RX6_27 (by first | rfl | assumption) (by first | rfl | assumption) ?_
          refine rw_iconst (v := 1) F dc_X6_move_61 rfl ?_
          refine rw_iadd F dc_X6_move_62 ?_
          refine rw_sipush (v := 9999) F dc_X6_move_63 rfl ?_
          refine rw_min F dc_X6_move_66 ml_RX6_51 (by decide) (Nat.le_of_ble_eq_true rfl) wm_min_s wm_i wm_min_c ?_
          refine rw_put F dc_X6_move_69 pf_RX6_27 (by first | rfl | assumption) (by first | rfl | assumption) rfl rfl ?_
          refine rw_aload_n F dc_X6_move_72 rfl ?_
          refine rw_bipush (v := 11) F dc_X6_move_73 rfl ?_
          refine rw_put F dc_X6_move_75 pf_RX6_15 (by first | rfl | assumption) (by first | rfl | assumption) rfl rfl ?_
          refine rw_aload_n F dc_X6_move_78 rfl ?_
          refine rw_iconst (v := 1) F dc_X6_move_79 rfl ?_
          refine rw_aload_n F dc_X6_move_80 rfl ?_
          refine rw_getI F dc_X6_move_81 fl_RX6_18 (by first | rfl | assumption) (by first | rfl | assumption) ?_
          refine rw_isub F dc_X6_move_84 ?_
          refine rw_put F dc_X6_move_85 pf_RX6_18 (by first | rfl | assumption) (by first | rfl | assumption) rfl rfl ?_
          refine rw_vret F dc_X6_move_88 rfl ?_
          exact ⟨rfl, by first | rfl | (simp only [g_X6_move, if_pos c1, if_neg c5, if_neg c6, if_pos c7]; done) | (simp only [g_X6_move, if_pos c1, if_neg c5, if_neg c6, if_pos c7]; rfl)⟩
def g_X6_sail (k : Nat) (shown : Int32) (tick : Int32) (τ : tw_T) : tw_T := if (τ k 4) = 1 then τ else (if (f_X6_seen k shown tick τ) = 1 then (if (f_X6_seen k shown tick τ) = 3 then (tw_sr (tw_sr τ k (upd (τ k) 2 1)) k (upd ((tw_sr τ k (upd (τ k) 2 1)) k) 6 (if 9999 < (((tw_sr τ k (upd (τ k) 2 1)) k 6) + (f_J6_bitCount_0f7a4 (f_X6_seen k shown tick τ) (tw_sr τ k (upd (τ k) 2 1)))) then 9999 else (((tw_sr τ k (upd (τ k) 2 1)) k 6) + (f_J6_bitCount_0f7a4 (f_X6_seen k shown tick τ) (tw_sr τ k (upd (τ k) 2 1))))))) else (g_X6_move k (f_X6_cellsToGo k tick (tw_sr (tw_sr τ k (upd (τ k) 2 1)) k (upd ((tw_sr τ k (upd (τ k) 2 1)) k) 6 (if 9999 < (((tw_sr τ k (upd (τ k) 2 1)) k 6) + (f_J6_bitCount_0f7a4 (f_X6_seen k shown tick τ) (tw_sr τ k (upd (τ k) 2 1)))) then 9999 else (((tw_sr τ k (upd (τ k) 2 1)) k 6) + (f_J6_bitCount_0f7a4 (f_X6_seen k shown tick τ) (tw_sr τ k (upd (τ k) 2 1)))))))) (tw_sr (tw_sr τ k (upd (τ k) 2 1)) k (upd ((tw_sr τ k (upd (τ k) 2 1)) k) 6 (if 9999 < (((tw_sr τ k (upd (τ k) 2 1)) k 6) + (f_J6_bitCount_0f7a4 (f_X6_seen k shown tick τ) (tw_sr τ k (upd (τ k) 2 1)))) then 9999 else (((tw_sr τ k (upd (τ k) 2 1)) k 6) + (f_J6_bitCount_0f7a4 (f_X6_seen k shown tick τ) (tw_sr τ k (upd (τ k) 2 1))))))))) else (if (f_X6_seen k shown tick τ) = 2 then (if (f_X6_seen k shown tick τ) = 3 then (tw_sr (tw_sr τ k (upd (τ k) 2 0)) k (upd ((tw_sr τ k (upd (τ k) 2 0)) k) 6 (if 9999 < (((tw_sr τ k (upd (τ k) 2 0)) k 6) + (f_J6_bitCount_0f7a4 (f_X6_seen k shown tick τ) (tw_sr τ k (upd (τ k) 2 0)))) then 9999 else (((tw_sr τ k (upd (τ k) 2 0)) k 6) + (f_J6_bitCount_0f7a4 (f_X6_seen k shown tick τ) (tw_sr τ k (upd (τ k) 2 0))))))) else (g_X6_move k (f_X6_cellsToGo k tick (tw_sr (tw_sr τ k (upd (τ k) 2 0)) k (upd ((tw_sr τ k (upd (τ k) 2 0)) k) 6 (if 9999 < (((tw_sr τ k (upd (τ k) 2 0)) k 6) + (f_J6_bitCount_0f7a4 (f_X6_seen k shown tick τ) (tw_sr τ k (upd (τ k) 2 0)))) then 9999 else (((tw_sr τ k (upd (τ k) 2 0)) k 6) + (f_J6_bitCount_0f7a4 (f_X6_seen k shown tick τ) (tw_sr τ k (upd (τ k) 2 0)))))))) (tw_sr (tw_sr τ k (upd (τ k) 2 0)) k (upd ((tw_sr τ k (upd (τ k) 2 0)) k) 6 (if 9999 < (((tw_sr τ k (upd (τ k) 2 0)) k 6) + (f_J6_bitCount_0f7a4 (f_X6_seen k shown tick τ) (tw_sr τ k (upd (τ k) 2 0)))) then 9999 else (((tw_sr τ k (upd (τ k) 2 0)) k 6) + (f_J6_bitCount_0f7a4 (f_X6_seen k shown tick τ) (tw_sr τ k (upd (τ k) 2 0))))))))) else (if (f_X6_seen k shown tick τ) = 3 then (tw_sr τ k (upd (τ k) 6 (if 9999 < ((τ k 6) + (f_J6_bitCount_0f7a4 (f_X6_seen k shown tick τ) τ)) then 9999 else ((τ k 6) + (f_J6_bitCount_0f7a4 (f_X6_seen k shown tick τ) τ))))) else (g_X6_move k (f_X6_cellsToGo k tick (tw_sr τ k (upd (τ k) 6 (if 9999 < ((τ k 6) + (f_J6_bitCount_0f7a4 (f_X6_seen k shown tick τ) τ)) then 9999 else ((τ k 6) + (f_J6_bitCount_0f7a4 (f_X6_seen k shown tick τ) τ)))))) (tw_sr τ k (upd (τ k) 6 (if 9999 < ((τ k 6) + (f_J6_bitCount_0f7a4 (f_X6_seen k shown tick τ) τ)) then 9999 else ((τ k 6) + (f_J6_bitCount_0f7a4 (f_X6_seen k shown tick τ) τ)))))))))
theorem ct_X6_sail {E : tw_E} {k : Nat} {shown : Int32} {tick : Int32} (hk : tw_isK k 6 = true := by first | rfl | assumption) {τ : tw_T} : tw_Cv E 3 mX6_sail [.ref k, .int shown, .int tick] τ (g_X6_sail k shown tick τ) := by
  have hlk0 : tw_lk k 0 = 0 := lk6 hk 0
  have hlk1 : tw_lk k 1 = 0 := lk6 hk 1
  have hlk2 : tw_lk k 2 = 0 := lk6 hk 2
  have hlk3 : tw_lk k 3 = 0 := lk6 hk 3
  have hlk4 : tw_lk k 4 = 0 := lk6 hk 4
  have hlk5 : tw_lk k 5 = 0 := lk6 hk 5
  have hlk6 : tw_lk k 6 = 0 := lk6 hk 6
  refine ct_of (by decide) (by simp [Value.category]) (Nat.le_of_ble_eq_true rfl) (fun K hE F => ?_)
  subst hE
  refine rw_aload_n F dc_X6_sail_0 rfl ?_
  refine rw_getI F dc_X6_sail_1 fl_RX6_24 (by first | rfl | assumption) (by first | rfl | assumption) ?_
  refine rw_iconst (v := 1) F dc_X6_sail_4 rfl ?_
  refine rw_icmp_ne (tgt := 9) F dc_X6_sail_5 rfl (fun c1 => ?_) (fun c1 => ?_)
  · refine rw_aload_n F dc_X6_sail_9 rfl ?_
    refine rw_iload_n F dc_X6_sail_10 rfl ?_
    refine rw_iload_n F dc_X6_sail_11 rfl ?_
    refine rw_cVi F [_, _] dc_X6_sail_12 mv_X6_seen ml_RX6_41 (by decide) (rc_6 (by first | rfl | assumption)) rfl rfl (Nat.le_of_ble_eq_true rfl) ct_X6_seen ?_
    refine rw_istore_n F dc_X6_sail_15 (by decide) rfl ?_
    refine rw_iload_n F dc_X6_sail_16 rfl ?_
    refine rw_iconst (v := 1) F dc_X6_sail_17 rfl ?_
    refine rw_icmp_ne (tgt := 29) F dc_X6_sail_18 rfl (fun c2 => ?_) (fun c2 => ?_)
    · refine rw_iload_n F dc_X6_sail_29 rfl ?_
      refine rw_iconst (v := 2) F dc_X6_sail_30 rfl ?_
      refine rw_icmp_ne (tgt := 39) F dc_X6_sail_31 rfl (fun c3 => ?_) (fun c3 => ?_)
      · refine rw_aload_n F dc_X6_sail_39 rfl ?_
        refine rw_aload_n F dc_X6_sail_40 rfl ?_
        refine rw_getI F dc_X6_sail_41 fl_RX6_30 (by first | rfl | assumption) (by first | rfl | assumption) ?_
        refine rw_iload_n F dc_X6_sail_44 rfl ?_
        refine rw_cSi F [_] dc_X6_sail_45 ms_J6_bitCount_0f7a4 ml_RX6_45 (by decide)  rfl rfl (Nat.le_of_ble_eq_true rfl) ct_J6_bitCount_0f7a4 ?_
        refine rw_iadd F dc_X6_sail_48 ?_
        refine rw_sipush (v := 9999) F dc_X6_sail_49 rfl ?_
        refine rw_min F dc_X6_sail_52 ml_RX6_51 (by decide) (Nat.le_of_ble_eq_true rfl) wm_min_s wm_i wm_min_c ?_
        refine rw_put F dc_X6_sail_55 pf_RX6_30 (by first | rfl | assumption) (by first | rfl | assumption) rfl rfl ?_
        refine rw_iload_n F dc_X6_sail_58 rfl ?_
        refine rw_iconst (v := 3) F dc_X6_sail_59 rfl ?_
        refine rw_icmp_eq (tgt := 72) F dc_X6_sail_60 rfl (fun c4 => ?_) (fun c4 => ?_)
        · refine rw_vret F dc_X6_sail_72 rfl ?_
          exact ⟨rfl, by first | rfl | (simp only [g_X6_sail, if_neg c1, if_neg c2, if_neg c3, if_pos c4]; done) | (simp only [g_X6_sail, if_neg c1, if_neg c2, if_neg c3, if_pos c4]; rfl)⟩
        · refine rw_aload_n F dc_X6_sail_63 rfl ?_
          refine rw_aload_n F dc_X6_sail_64 rfl ?_
          refine rw_iload_n F dc_X6_sail_65 rfl ?_
          refine rw_cVi F [_] dc_X6_sail_66 mv_X6_cellsToGo ml_RX6_56 (by decide) (rc_6 (by first | rfl | assumption)) rfl rfl (Nat.le_of_ble_eq_true rfl) ct_X6_cellsToGo ?_
          refine rw_cVv F [_] dc_X6_sail_69 mv_X6_move ml_RX6_59 (by decide) (rc_6 (by first | rfl | assumption)) rfl rfl (Nat.le_of_ble_eq_true rfl) ct_X6_move ?_
          refine rw_vret F dc_X6_sail_72 rfl ?_
          exact ⟨rfl, by first | rfl | (simp only [g_X6_sail, if_neg c1, if_neg c2, if_neg c3, if_neg c4]; done) | (simp only [g_X6_sail, if_neg c1, if_neg c2, if_neg c3, if_neg c4]; rfl)⟩
      · refine rw_aload_n F dc_X6_sail_34 rfl ?_
        refine rw_iconst (v := 0) F dc_X6_sail_35 rfl ?_
        refine rw_put F dc_X6_sail_36 pf_RX6_18 (by first | rfl | assumption) (by first | rfl | assumption) rfl rfl ?_
        refine rw_aload_n F dc_X6_sail_39 rfl ?_
        refine rw_aload_n F dc_X6_sail_40 rfl ?_
        refine rw_getI F dc_X6_sail_41 fl_RX6_30 (by first | rfl | assumption) (by first | rfl | assumption) ?_
        refine rw_iload_n F dc_X6_sail_44 rfl ?_
        refine rw_cSi F [_] dc_X6_sail_45 ms_J6_bitCount_0f7a4 ml_RX6_45 (by decide)  rfl rfl (Nat.le_of_ble_eq_true rfl) ct_J6_bitCount_0f7a4 ?_
        refine rw_iadd F dc_X6_sail_48 ?_
        refine rw_sipush (v := 9999) F dc_X6_sail_49 rfl ?_
        refine rw_min F dc_X6_sail_52 ml_RX6_51 (by decide) (Nat.le_of_ble_eq_true rfl) wm_min_s wm_i wm_min_c ?_
        refine rw_put F dc_X6_sail_55 pf_RX6_30 (by first | rfl | assumption) (by first | rfl | assumption) rfl rfl ?_
        refine rw_iload_n F dc_X6_sail_58 rfl ?_
        refine rw_iconst (v := 3) F dc_X6_sail_59 rfl ?_
        refine rw_icmp_eq (tgt := 72) F dc_X6_sail_60 rfl (fun c5 => ?_) (fun c5 => ?_)
        · refine rw_vret F dc_X6_sail_72 rfl ?_
          exact ⟨rfl, by first | rfl | (simp only [g_X6_sail, if_neg c1, if_neg c2, if_pos c3, if_pos c5]; done) | (simp only [g_X6_sail, if_neg c1, if_neg c2, if_pos c3, if_pos c5]; rfl)⟩
        · refine rw_aload_n F dc_X6_sail_63 rfl ?_
          refine rw_aload_n F dc_X6_sail_64 rfl ?_
          refine rw_iload_n F dc_X6_sail_65 rfl ?_
          refine rw_cVi F [_] dc_X6_sail_66 mv_X6_cellsToGo ml_RX6_56 (by decide) (rc_6 (by first | rfl | assumption)) rfl rfl (Nat.le_of_ble_eq_true rfl) ct_X6_cellsToGo ?_
          refine rw_cVv F [_] dc_X6_sail_69 mv_X6_move ml_RX6_59 (by decide) (rc_6 (by first | rfl | assumption)) rfl rfl (Nat.le_of_ble_eq_true rfl) ct_X6_move ?_
          refine rw_vret F dc_X6_sail_72 rfl ?_
          exact ⟨rfl, by first | rfl | (simp only [g_X6_sail, if_neg c1, if_neg c2, if_pos c3, if_neg c5]; done) | (simp only [g_X6_sail, if_neg c1, if_neg c2, if_pos c3, if_neg c5]; rfl)⟩
    · refine rw_aload_n F dc_X6_sail_21 rfl ?_
      refine rw_iconst (v := 1) F dc_X6_sail_22 rfl ?_
      refine rw_put F dc_X6_sail_23 pf_RX6_18 (by first | rfl | assumption) (by first | rfl | assumption) rfl rfl ?_
      refine rw_goto (tgt := 39) F dc_X6_sail_26 rfl ?_
      refine rw_aload_n F dc_X6_sail_39 rfl ?_
      refine rw_aload_n F dc_X6_sail_40 rfl ?_
      refine rw_getI F dc_X6_sail_41 fl_RX6_30 (by first | rfl | assumption) (by first | rfl | assumption) ?_
      refine rw_iload_n F dc_X6_sail_44 rfl ?_
      refine rw_cSi F [_] dc_X6_sail_45 ms_J6_bitCount_0f7a4 ml_RX6_45 (by decide)  rfl rfl (Nat.le_of_ble_eq_true rfl) ct_J6_bitCount_0f7a4 ?_
      refine rw_iadd F dc_X6_sail_48 ?_
      refine rw_sipush (v := 9999) F dc_X6_sail_49 rfl ?_
      refine rw_min F dc_X6_sail_52 ml_RX6_51 (by decide) (Nat.le_of_ble_eq_true rfl) wm_min_s wm_i wm_min_c ?_
      refine rw_put F dc_X6_sail_55 pf_RX6_30 (by first | rfl | assumption) (by first | rfl | assumption) rfl rfl ?_
      refine rw_iload_n F dc_X6_sail_58 rfl ?_
      refine rw_iconst (v := 3) F dc_X6_sail_59 rfl ?_
      refine rw_icmp_eq (tgt := 72) F dc_X6_sail_60 rfl (fun c6 => ?_) (fun c6 => ?_)
      · refine rw_vret F dc_X6_sail_72 rfl ?_
        exact ⟨rfl, by first | rfl | (simp only [g_X6_sail, if_neg c1, if_pos c2, if_pos c6]; done) | (simp only [g_X6_sail, if_neg c1, if_pos c2, if_pos c6]; rfl)⟩
      · refine rw_aload_n F dc_X6_sail_63 rfl ?_
        refine rw_aload_n F dc_X6_sail_64 rfl ?_
        refine rw_iload_n F dc_X6_sail_65 rfl ?_
        refine rw_cVi F [_] dc_X6_sail_66 mv_X6_cellsToGo ml_RX6_56 (by decide) (rc_6 (by first | rfl | assumption)) rfl rfl (Nat.le_of_ble_eq_true rfl) ct_X6_cellsToGo ?_
        refine rw_cVv F [_] dc_X6_sail_69 mv_X6_move ml_RX6_59 (by decide) (rc_6 (by first | rfl | assumption)) rfl rfl (Nat.le_of_ble_eq_true rfl) ct_X6_move ?_
        refine rw_vret F dc_X6_sail_72 rfl ?_
        exact ⟨rfl, by first | rfl | (simp only [g_X6_sail, if_neg c1, if_pos c2, if_neg c6]; done) | (simp only [g_X6_sail, if_neg c1, if_pos c2, if_neg c6]; rfl)⟩
  · refine rw_vret F dc_X6_sail_8 rfl ?_
    exact ⟨rfl, by first | rfl | (simp only [g_X6_sail, if_pos c1]; done) | (simp only [g_X6_sail, if_pos c1]; rfl)⟩
def g_X2_take (k : Nat) (o : Nat) (τ : tw_T) : tw_T := tw_sr (tw_sr (tw_sr (tw_sr (tw_sr τ k (upd (τ k) 0 (τ o 0))) k (upd ((tw_sr τ k (upd (τ k) 0 (τ o 0))) k) 1 ((tw_sr τ k (upd (τ k) 0 (τ o 0))) o 1))) k (upd ((tw_sr (tw_sr τ k (upd (τ k) 0 (τ o 0))) k (upd ((tw_sr τ k (upd (τ k) 0 (τ o 0))) k) 1 ((tw_sr τ k (upd (τ k) 0 (τ o 0))) o 1))) k) 2 ((tw_sr (tw_sr τ k (upd (τ k) 0 (τ o 0))) k (upd ((tw_sr τ k (upd (τ k) 0 (τ o 0))) k) 1 ((tw_sr τ k (upd (τ k) 0 (τ o 0))) o 1))) o 2))) k (upd ((tw_sr (tw_sr (tw_sr τ k (upd (τ k) 0 (τ o 0))) k (upd ((tw_sr τ k (upd (τ k) 0 (τ o 0))) k) 1 ((tw_sr τ k (upd (τ k) 0 (τ o 0))) o 1))) k (upd ((tw_sr (tw_sr τ k (upd (τ k) 0 (τ o 0))) k (upd ((tw_sr τ k (upd (τ k) 0 (τ o 0))) k) 1 ((tw_sr τ k (upd (τ k) 0 (τ o 0))) o 1))) k) 2 ((tw_sr (tw_sr τ k (upd (τ k) 0 (τ o 0))) k (upd ((tw_sr τ k (upd (τ k) 0 (τ o 0))) k) 1 ((tw_sr τ k (upd (τ k) 0 (τ o 0))) o 1))) o 2))) k) 3 ((tw_sr (tw_sr (tw_sr τ k (upd (τ k) 0 (τ o 0))) k (upd ((tw_sr τ k (upd (τ k) 0 (τ o 0))) k) 1 ((tw_sr τ k (upd (τ k) 0 (τ o 0))) o 1))) k (upd ((tw_sr (tw_sr τ k (upd (τ k) 0 (τ o 0))) k (upd ((tw_sr τ k (upd (τ k) 0 (τ o 0))) k) 1 ((tw_sr τ k (upd (τ k) 0 (τ o 0))) o 1))) k) 2 ((tw_sr (tw_sr τ k (upd (τ k) 0 (τ o 0))) k (upd ((tw_sr τ k (upd (τ k) 0 (τ o 0))) k) 1 ((tw_sr τ k (upd (τ k) 0 (τ o 0))) o 1))) o 2))) o 3))) k (upd ((tw_sr (tw_sr (tw_sr (tw_sr τ k (upd (τ k) 0 (τ o 0))) k (upd ((tw_sr τ k (upd (τ k) 0 (τ o 0))) k) 1 ((tw_sr τ k (upd (τ k) 0 (τ o 0))) o 1))) k (upd ((tw_sr (tw_sr τ k (upd (τ k) 0 (τ o 0))) k (upd ((tw_sr τ k (upd (τ k) 0 (τ o 0))) k) 1 ((tw_sr τ k (upd (τ k) 0 (τ o 0))) o 1))) k) 2 ((tw_sr (tw_sr τ k (upd (τ k) 0 (τ o 0))) k (upd ((tw_sr τ k (upd (τ k) 0 (τ o 0))) k) 1 ((tw_sr τ k (upd (τ k) 0 (τ o 0))) o 1))) o 2))) k (upd ((tw_sr (tw_sr (tw_sr τ k (upd (τ k) 0 (τ o 0))) k (upd ((tw_sr τ k (upd (τ k) 0 (τ o 0))) k) 1 ((tw_sr τ k (upd (τ k) 0 (τ o 0))) o 1))) k (upd ((tw_sr (tw_sr τ k (upd (τ k) 0 (τ o 0))) k (upd ((tw_sr τ k (upd (τ k) 0 (τ o 0))) k) 1 ((tw_sr τ k (upd (τ k) 0 (τ o 0))) o 1))) k) 2 ((tw_sr (tw_sr τ k (upd (τ k) 0 (τ o 0))) k (upd ((tw_sr τ k (upd (τ k) 0 (τ o 0))) k) 1 ((tw_sr τ k (upd (τ k) 0 (τ o 0))) o 1))) o 2))) k) 3 ((tw_sr (tw_sr (tw_sr τ k (upd (τ k) 0 (τ o 0))) k (upd ((tw_sr τ k (upd (τ k) 0 (τ o 0))) k) 1 ((tw_sr τ k (upd (τ k) 0 (τ o 0))) o 1))) k (upd ((tw_sr (tw_sr τ k (upd (τ k) 0 (τ o 0))) k (upd ((tw_sr τ k (upd (τ k) 0 (τ o 0))) k) 1 ((tw_sr τ k (upd (τ k) 0 (τ o 0))) o 1))) k) 2 ((tw_sr (tw_sr τ k (upd (τ k) 0 (τ o 0))) k (upd ((tw_sr τ k (upd (τ k) 0 (τ o 0))) k) 1 ((tw_sr τ k (upd (τ k) 0 (τ o 0))) o 1))) o 2))) o 3))) k) 4 ((tw_sr (tw_sr (tw_sr (tw_sr τ k (upd (τ k) 0 (τ o 0))) k (upd ((tw_sr τ k (upd (τ k) 0 (τ o 0))) k) 1 ((tw_sr τ k (upd (τ k) 0 (τ o 0))) o 1))) k (upd ((tw_sr (tw_sr τ k (upd (τ k) 0 (τ o 0))) k (upd ((tw_sr τ k (upd (τ k) 0 (τ o 0))) k) 1 ((tw_sr τ k (upd (τ k) 0 (τ o 0))) o 1))) k) 2 ((tw_sr (tw_sr τ k (upd (τ k) 0 (τ o 0))) k (upd ((tw_sr τ k (upd (τ k) 0 (τ o 0))) k) 1 ((tw_sr τ k (upd (τ k) 0 (τ o 0))) o 1))) o 2))) k (upd ((tw_sr (tw_sr (tw_sr τ k (upd (τ k) 0 (τ o 0))) k (upd ((tw_sr τ k (upd (τ k) 0 (τ o 0))) k) 1 ((tw_sr τ k (upd (τ k) 0 (τ o 0))) o 1))) k (upd ((tw_sr (tw_sr τ k (upd (τ k) 0 (τ o 0))) k (upd ((tw_sr τ k (upd (τ k) 0 (τ o 0))) k) 1 ((tw_sr τ k (upd (τ k) 0 (τ o 0))) o 1))) k) 2 ((tw_sr (tw_sr τ k (upd (τ k) 0 (τ o 0))) k (upd ((tw_sr τ k (upd (τ k) 0 (τ o 0))) k) 1 ((tw_sr τ k (upd (τ k) 0 (τ o 0))) o 1))) o 2))) k) 3 ((tw_sr (tw_sr (tw_sr τ k (upd (τ k) 0 (τ o 0))) k (upd ((tw_sr τ k (upd (τ k) 0 (τ o 0))) k) 1 ((tw_sr τ k (upd (τ k) 0 (τ o 0))) o 1))) k (upd ((tw_sr (tw_sr τ k (upd (τ k) 0 (τ o 0))) k (upd ((tw_sr τ k (upd (τ k) 0 (τ o 0))) k) 1 ((tw_sr τ k (upd (τ k) 0 (τ o 0))) o 1))) k) 2 ((tw_sr (tw_sr τ k (upd (τ k) 0 (τ o 0))) k (upd ((tw_sr τ k (upd (τ k) 0 (τ o 0))) k) 1 ((tw_sr τ k (upd (τ k) 0 (τ o 0))) o 1))) o 2))) o 3))) o 4))
theorem ct_X2_take {E : tw_E} {k : Nat} {o : Nat} (hk : tw_isK k 2 = true := by first | rfl | assumption) (ho : tw_isK o 2 = true := by first | rfl | assumption) {τ : tw_T} : tw_Cv E 1 mX2_take [.ref k, .ref o] τ (g_X2_take k o τ) := by
  have hlk0 : tw_lk k 0 = 0 := lk2 hk 0
  have hlk1 : tw_lk k 1 = 0 := lk2 hk 1
  have hlk2 : tw_lk k 2 = 0 := lk2 hk 2
  have hlk3 : tw_lk k 3 = 0 := lk2 hk 3
  have hlk4 : tw_lk k 4 = 0 := lk2 hk 4
  have hlo0 : tw_lk o 0 = 0 := lk2 ho 0
  have hlo1 : tw_lk o 1 = 0 := lk2 ho 1
  have hlo2 : tw_lk o 2 = 0 := lk2 ho 2
  have hlo3 : tw_lk o 3 = 0 := lk2 ho 3
  have hlo4 : tw_lk o 4 = 0 := lk2 ho 4
  refine ct_of (by decide) (by simp [Value.category]) (Nat.le_of_ble_eq_true rfl) (fun K hE F => ?_)
  subst hE
  refine rw_aload_n F dc_X2_take_0 rfl ?_
  refine rw_aload_n F dc_X2_take_1 rfl ?_
  refine rw_getI F dc_X2_take_2 fl_RX2_9 (by first | rfl | assumption) (by first | rfl | assumption) ?_
  refine rw_put F dc_X2_take_5 pf_RX2_9 (by first | rfl | assumption) (by first | rfl | assumption) rfl rfl ?_
  refine rw_aload_n F dc_X2_take_8 rfl ?_
  refine rw_aload_n F dc_X2_take_9 rfl ?_
  refine rw_getI F dc_X2_take_10 fl_RX2_15 (by first | rfl | assumption) (by first | rfl | assumption) ?_
  refine rw_put F dc_X2_take_13 pf_RX2_15 (by first | rfl | assumption) (by first | rfl | assumption) rfl rfl ?_
  refine rw_aload_n F dc_X2_take_16 rfl ?_
  refine rw_aload_n F dc_X2_take_17 rfl ?_
  refine rw_getI F dc_X2_take_18 fl_RX2_18 (by first | rfl | assumption) (by first | rfl | assumption) ?_
  refine rw_put F dc_X2_take_21 pf_RX2_18 (by first | rfl | assumption) (by first | rfl | assumption) rfl rfl ?_
  refine rw_aload_n F dc_X2_take_24 rfl ?_
  refine rw_aload_n F dc_X2_take_25 rfl ?_
  refine rw_getI F dc_X2_take_26 fl_RX2_21 (by first | rfl | assumption) (by first | rfl | assumption) ?_
  refine rw_put F dc_X2_take_29 pf_RX2_21 (by first | rfl | assumption) (by first | rfl | assumption) rfl rfl ?_
  refine rw_aload_n F dc_X2_take_32 rfl ?_
  refine rw_aload_n F dc_X2_take_33 rfl ?_
  refine rw_getI F dc_X2_take_34 fl_RX2_24 (by first | rfl | assumption) (by first | rfl | assumption) ?_
  refine rw_put F dc_X2_take_37 pf_RX2_24 (by first | rfl | assumption) (by first | rfl | assumption) rfl rfl ?_
  refine rw_vret F dc_X2_take_40 rfl ?_
  exact ⟨rfl, by first | rfl | (simp only [g_X2_take]; done) | (simp only [g_X2_take]; rfl)⟩
def g_X2_become (k : Nat) (what : Int32) (v : Int32) (τ : tw_T) : tw_T := if what = 0 then (tw_sr τ k (upd (τ k) 0 v)) else (if what = 1 then (tw_sr τ k (upd (τ k) 1 v)) else (if what = 2 then (tw_sr τ k (upd (τ k) 2 v)) else (tw_sr τ k (upd (τ k) 3 v))))
theorem ct_X2_become {E : tw_E} {k : Nat} {what : Int32} {v : Int32} (hk : tw_isK k 2 = true := by first | rfl | assumption) {τ : tw_T} : tw_Cv E 1 mX2_become [.ref k, .int what, .int v] τ (g_X2_become k what v τ) := by
  have hlk0 : tw_lk k 0 = 0 := lk2 hk 0
  have hlk1 : tw_lk k 1 = 0 := lk2 hk 1
  have hlk2 : tw_lk k 2 = 0 := lk2 hk 2
  have hlk3 : tw_lk k 3 = 0 := lk2 hk 3
  have hlk4 : tw_lk k 4 = 0 := lk2 hk 4
  refine ct_of (by decide) (by simp [Value.category]) (Nat.le_of_ble_eq_true rfl) (fun K hE F => ?_)
  subst hE
  refine rw_iload_n F dc_X2_become_0 rfl ?_
  refine rw_tswc (0) 0 28 F dc_X2_become_1 rfl rfl (by decide) (by decide) (fun c1_0 => ?_) (fun c1_0 => ?_)
  · refine rw_aload_n F dc_X2_become_28 rfl ?_
    refine rw_iload_n F dc_X2_become_29 rfl ?_
    refine rw_put F dc_X2_become_30 pf_RX2_9 (by first | rfl | assumption) (by first | rfl | assumption) rfl rfl ?_
    refine rw_goto (tgt := 57) F dc_X2_become_33 rfl ?_
    refine rw_vret F dc_X2_become_57 rfl ?_
    exact ⟨rfl, by first | rfl | (simp only [g_X2_become, if_pos c1_0]; done) | (simp only [g_X2_become, if_pos c1_0]; rfl)⟩
  refine rw_tswc (1) 1 36 F dc_X2_become_1 rfl rfl (by decide) (by decide) (fun c1_1 => ?_) (fun c1_1 => ?_)
  · refine rw_aload_n F dc_X2_become_36 rfl ?_
    refine rw_iload_n F dc_X2_become_37 rfl ?_
    refine rw_put F dc_X2_become_38 pf_RX2_15 (by first | rfl | assumption) (by first | rfl | assumption) rfl rfl ?_
    refine rw_goto (tgt := 57) F dc_X2_become_41 rfl ?_
    refine rw_vret F dc_X2_become_57 rfl ?_
    exact ⟨rfl, by first | rfl | (simp only [g_X2_become, if_neg c1_0, if_pos c1_1]; done) | (simp only [g_X2_become, if_neg c1_0, if_pos c1_1]; rfl)⟩
  refine rw_tswc (2) 2 44 F dc_X2_become_1 rfl rfl (by decide) (by decide) (fun c1_2 => ?_) (fun c1_2 => ?_)
  · refine rw_aload_n F dc_X2_become_44 rfl ?_
    refine rw_iload_n F dc_X2_become_45 rfl ?_
    refine rw_put F dc_X2_become_46 pf_RX2_18 (by first | rfl | assumption) (by first | rfl | assumption) rfl rfl ?_
    refine rw_goto (tgt := 57) F dc_X2_become_49 rfl ?_
    refine rw_vret F dc_X2_become_57 rfl ?_
    exact ⟨rfl, by first | rfl | (simp only [g_X2_become, if_neg c1_0, if_neg c1_1, if_pos c1_2]; done) | (simp only [g_X2_become, if_neg c1_0, if_neg c1_1, if_pos c1_2]; rfl)⟩
  refine rw_tsw F dc_X2_become_1 52 (Or.inl ⟨by have h0 := lv_neT c1_0 (a := 0) (by decide); have h1 := lv_neT c1_1 (a := 1) (by decide); have h2 := lv_neT c1_2 (a := 2) (by decide); omega, by decide⟩) ?_
  refine rw_aload_n F dc_X2_become_52 rfl ?_
  refine rw_iload_n F dc_X2_become_53 rfl ?_
  refine rw_put F dc_X2_become_54 pf_RX2_21 (by first | rfl | assumption) (by first | rfl | assumption) rfl rfl ?_
  refine rw_vret F dc_X2_become_57 rfl ?_
  exact ⟨rfl, by first | rfl | (simp only [g_X2_become, if_neg c1_0, if_neg c1_1, if_neg c1_2]; done) | (simp only [g_X2_become, if_neg c1_0, if_neg c1_1, if_neg c1_2]; rfl)⟩
def f_X2_tickAhead (k : Nat) (n : Int32) (τ : tw_T) : Int32 := if 99999 < ((τ k 4) + n) then 99999 else ((τ k 4) + n)
theorem ct_X2_tickAhead {E : tw_E} {k : Nat} {n : Int32} (hk : tw_isK k 2 = true := by first | rfl | assumption) {τ : tw_T} : tw_Ci E 1 mX2_tickAhead [.ref k, .int n] τ (f_X2_tickAhead k n τ) (τ) := by
  have hlk0 : tw_lk k 0 = 0 := lk2 hk 0
  have hlk1 : tw_lk k 1 = 0 := lk2 hk 1
  have hlk2 : tw_lk k 2 = 0 := lk2 hk 2
  have hlk3 : tw_lk k 3 = 0 := lk2 hk 3
  have hlk4 : tw_lk k 4 = 0 := lk2 hk 4
  refine ct_of (by decide) (by simp [Value.category]) (Nat.le_of_ble_eq_true rfl) (fun K hE F => ?_)
  subst hE
  refine rw_aload_n F dc_X2_tickAhead_0 rfl ?_
  refine rw_getI F dc_X2_tickAhead_1 fl_RX2_24 (by first | rfl | assumption) (by first | rfl | assumption) ?_
  refine rw_iload_n F dc_X2_tickAhead_4 rfl ?_
  refine rw_iadd F dc_X2_tickAhead_5 ?_
  refine rw_ldc F dc_X2_tickAhead_6 kc_RX2_39 ?_
  refine rw_min F dc_X2_tickAhead_8 ml_RX2_40 (by decide) (Nat.le_of_ble_eq_true rfl) wm_min_s wm_i wm_min_c ?_
  refine rw_iret F dc_X2_tickAhead_11 rfl rfl ?_
  exact ⟨by first | rfl | (simp only [f_X2_tickAhead]; done) | (simp only [f_X2_tickAhead]; rfl), by first | rfl | (simp only [f_X2_tickAhead]; done) | (simp only [f_X2_tickAhead]; rfl)⟩
def f_X2_bitAhead (k : Nat) (n : Int32) (τ : tw_T) : Int32 := 1 <<< (((f_X2_tickAhead k n τ) - (f_X2_tickAhead k n τ) / 12 * 12) &&& 31)
theorem ct_X2_bitAhead {E : tw_E} {k : Nat} {n : Int32} (hk : tw_isK k 2 = true := by first | rfl | assumption) {τ : tw_T} : tw_Ci E 2 mX2_bitAhead [.ref k, .int n] τ (f_X2_bitAhead k n τ) (τ) := by
  have hlk0 : tw_lk k 0 = 0 := lk2 hk 0
  have hlk1 : tw_lk k 1 = 0 := lk2 hk 1
  have hlk2 : tw_lk k 2 = 0 := lk2 hk 2
  have hlk3 : tw_lk k 3 = 0 := lk2 hk 3
  have hlk4 : tw_lk k 4 = 0 := lk2 hk 4
  refine ct_of (by decide) (by simp [Value.category]) (Nat.le_of_ble_eq_true rfl) (fun K hE F => ?_)
  subst hE
  refine rw_iconst (v := 1) F dc_X2_bitAhead_0 rfl ?_
  refine rw_aload_n F dc_X2_bitAhead_1 rfl ?_
  refine rw_iload_n F dc_X2_bitAhead_2 rfl ?_
  refine rw_cVi F [_] dc_X2_bitAhead_3 mv_X2_tickAhead ml_RX2_46 (by decide) (rc_2 (by first | rfl | assumption)) rfl rfl (Nat.le_of_ble_eq_true rfl) ct_X2_tickAhead ?_
  refine rw_bipush (v := 12) F dc_X2_bitAhead_6 rfl ?_
  refine rw_irem F dc_X2_bitAhead_8 (by decide) ?_
  refine rw_ishl F dc_X2_bitAhead_9 ?_
  refine rw_iret F dc_X2_bitAhead_10 rfl rfl ?_
  exact ⟨by first | rfl | (simp only [f_X2_bitAhead]; done) | (simp only [f_X2_bitAhead]; rfl), by first | rfl | (simp only [f_X2_bitAhead]; done) | (simp only [f_X2_bitAhead]; rfl)⟩
def f_X2_firstAhead (k : Nat) (n : Int32) (τ : tw_T) : Int32 := ((τ k 0) >>> (((f_X2_tickAhead k n τ) - (f_X2_tickAhead k n τ) / 12 * 12) &&& 31)) &&& 1
theorem ct_X2_firstAhead {E : tw_E} {k : Nat} {n : Int32} (hk : tw_isK k 2 = true := by first | rfl | assumption) {τ : tw_T} : tw_Ci E 2 mX2_firstAhead [.ref k, .int n] τ (f_X2_firstAhead k n τ) (τ) := by
  have hlk0 : tw_lk k 0 = 0 := lk2 hk 0
  have hlk1 : tw_lk k 1 = 0 := lk2 hk 1
  have hlk2 : tw_lk k 2 = 0 := lk2 hk 2
  have hlk3 : tw_lk k 3 = 0 := lk2 hk 3
  have hlk4 : tw_lk k 4 = 0 := lk2 hk 4
  refine ct_of (by decide) (by simp [Value.category]) (Nat.le_of_ble_eq_true rfl) (fun K hE F => ?_)
  subst hE
  refine rw_aload_n F dc_X2_firstAhead_0 rfl ?_
  refine rw_getI F dc_X2_firstAhead_1 fl_RX2_9 (by first | rfl | assumption) (by first | rfl | assumption) ?_
  refine rw_aload_n F dc_X2_firstAhead_4 rfl ?_
  refine rw_iload_n F dc_X2_firstAhead_5 rfl ?_
  refine rw_cVi F [_] dc_X2_firstAhead_6 mv_X2_tickAhead ml_RX2_46 (by decide) (rc_2 (by first | rfl | assumption)) rfl rfl (Nat.le_of_ble_eq_true rfl) ct_X2_tickAhead ?_
  refine rw_bipush (v := 12) F dc_X2_firstAhead_9 rfl ?_
  refine rw_irem F dc_X2_firstAhead_11 (by decide) ?_
  refine rw_ishr F dc_X2_firstAhead_12 ?_
  refine rw_iconst (v := 1) F dc_X2_firstAhead_13 rfl ?_
  refine rw_iand F dc_X2_firstAhead_14 ?_
  refine rw_iret F dc_X2_firstAhead_15 rfl rfl ?_
  exact ⟨by first | rfl | (simp only [f_X2_firstAhead]; done) | (simp only [f_X2_firstAhead]; rfl), by first | rfl | (simp only [f_X2_firstAhead]; done) | (simp only [f_X2_firstAhead]; rfl)⟩
def f_X2_ticksToSource (k : Nat) (n : Int32) (τ : tw_T) : Int32 := if (τ k 2) = 1 then (n - (τ k 1)) else n
theorem ct_X2_ticksToSource {E : tw_E} {k : Nat} {n : Int32} (hk : tw_isK k 2 = true := by first | rfl | assumption) {τ : tw_T} : tw_Ci E 1 mX2_ticksToSource [.ref k, .int n] τ (f_X2_ticksToSource k n τ) (τ) := by
  have hlk0 : tw_lk k 0 = 0 := lk2 hk 0
  have hlk1 : tw_lk k 1 = 0 := lk2 hk 1
  have hlk2 : tw_lk k 2 = 0 := lk2 hk 2
  have hlk3 : tw_lk k 3 = 0 := lk2 hk 3
  have hlk4 : tw_lk k 4 = 0 := lk2 hk 4
  refine ct_of (by decide) (by simp [Value.category]) (Nat.le_of_ble_eq_true rfl) (fun K hE F => ?_)
  subst hE
  refine rw_aload_n F dc_X2_ticksToSource_0 rfl ?_
  refine rw_getI F dc_X2_ticksToSource_1 fl_RX2_18 (by first | rfl | assumption) (by first | rfl | assumption) ?_
  refine rw_iconst (v := 1) F dc_X2_ticksToSource_4 rfl ?_
  refine rw_icmp_ne (tgt := 17) F dc_X2_ticksToSource_5 rfl (fun c1 => ?_) (fun c1 => ?_)
  · refine rw_iload_n F dc_X2_ticksToSource_17 rfl ?_
    refine rw_iret F dc_X2_ticksToSource_18 rfl rfl ?_
    exact ⟨by first | rfl | (simp only [f_X2_ticksToSource, if_neg c1]; done) | (simp only [f_X2_ticksToSource, if_neg c1]; rfl), by first | rfl | (simp only [f_X2_ticksToSource, if_neg c1]; done) | (simp only [f_X2_ticksToSource, if_neg c1]; rfl)⟩
  · refine rw_iload_n F dc_X2_ticksToSource_8 rfl ?_
    refine rw_aload_n F dc_X2_ticksToSource_9 rfl ?_
    refine rw_getI F dc_X2_ticksToSource_10 fl_RX2_15 (by first | rfl | assumption) (by first | rfl | assumption) ?_
    refine rw_isub F dc_X2_ticksToSource_13 ?_
    refine rw_goto (tgt := 18) F dc_X2_ticksToSource_14 rfl ?_
    refine rw_iret F dc_X2_ticksToSource_18 rfl rfl ?_
    exact ⟨by first | rfl | (simp only [f_X2_ticksToSource, if_pos c1]; done) | (simp only [f_X2_ticksToSource, if_pos c1]; rfl), by first | rfl | (simp only [f_X2_ticksToSource, if_pos c1]; done) | (simp only [f_X2_ticksToSource, if_pos c1]; rfl)⟩
def f_X2_shownAhead (k : Nat) (n : Int32) (τ : tw_T) : Int32 := if (f_X2_ticksToSource k n τ) < 0 then (if (f_X2_firstAhead k n τ) = 1 then (if (((τ k 3) >>> ((((-1)) - (f_X2_ticksToSource k n τ)) &&& 31)) &&& 1) = 1 then (1 ||| 2) else (1 ||| 0)) else (if (((τ k 3) >>> ((((-1)) - (f_X2_ticksToSource k n τ)) &&& 31)) &&& 1) = 1 then (0 ||| 2) else (0 ||| 0))) else (if (f_X2_firstAhead k n τ) = 1 then (if (f_X2_firstAhead k (f_X2_ticksToSource k n τ) τ) = 1 then (1 ||| 2) else (1 ||| 0)) else (if (f_X2_firstAhead k (f_X2_ticksToSource k n τ) τ) = 1 then (0 ||| 2) else (0 ||| 0)))
theorem ct_X2_shownAhead {E : tw_E} {k : Nat} {n : Int32} (hk : tw_isK k 2 = true := by first | rfl | assumption) {τ : tw_T} : tw_Ci E 3 mX2_shownAhead [.ref k, .int n] τ (f_X2_shownAhead k n τ) (τ) := by
  have hlk0 : tw_lk k 0 = 0 := lk2 hk 0
  have hlk1 : tw_lk k 1 = 0 := lk2 hk 1
  have hlk2 : tw_lk k 2 = 0 := lk2 hk 2
  have hlk3 : tw_lk k 3 = 0 := lk2 hk 3
  have hlk4 : tw_lk k 4 = 0 := lk2 hk 4
  refine ct_of (by decide) (by simp [Value.category]) (Nat.le_of_ble_eq_true rfl) (fun K hE F => ?_)
  subst hE
  refine rw_aload_n F dc_X2_shownAhead_0 rfl ?_
  refine rw_iload_n F dc_X2_shownAhead_1 rfl ?_
  refine rw_cVi F [_] dc_X2_shownAhead_2 mv_X2_ticksToSource ml_RX2_52 (by decide) (rc_2 (by first | rfl | assumption)) rfl rfl (Nat.le_of_ble_eq_true rfl) ct_X2_ticksToSource ?_
  refine rw_istore_n F dc_X2_shownAhead_5 (by decide) rfl ?_
  refine rw_iload_n F dc_X2_shownAhead_6 rfl ?_
  refine rw_if_lt (tgt := 18) F dc_X2_shownAhead_7 rfl (fun c1 => ?_) (fun c1 => ?_)
  · refine rw_aload_n F dc_X2_shownAhead_18 rfl ?_
    refine rw_getI F dc_X2_shownAhead_19 fl_RX2_21 (by first | rfl | assumption) (by first | rfl | assumption) ?_
    refine rw_iconst (v := (-1)) F dc_X2_shownAhead_22 rfl ?_
    refine rw_iload_n F dc_X2_shownAhead_23 rfl ?_
    refine rw_isub F dc_X2_shownAhead_24 ?_
    refine rw_ishr F dc_X2_shownAhead_25 ?_
    refine rw_iconst (v := 1) F dc_X2_shownAhead_26 rfl ?_
    refine rw_iand F dc_X2_shownAhead_27 ?_
    refine rw_istore_n F dc_X2_shownAhead_28 (by decide) rfl ?_
    refine rw_aload_n F dc_X2_shownAhead_29 rfl ?_
    refine rw_iload_n F dc_X2_shownAhead_30 rfl ?_
    refine rw_cVi F [_] dc_X2_shownAhead_31 mv_X2_firstAhead ml_RX2_32 (by decide) (rc_2 (by first | rfl | assumption)) rfl rfl (Nat.le_of_ble_eq_true rfl) ct_X2_firstAhead ?_
    refine rw_iconst (v := 1) F dc_X2_shownAhead_34 rfl ?_
    refine rw_icmp_ne (tgt := 42) F dc_X2_shownAhead_35 rfl (fun c2 => ?_) (fun c2 => ?_)
    · refine rw_iconst (v := 0) F dc_X2_shownAhead_42 rfl ?_
      refine rw_iload_n F dc_X2_shownAhead_43 rfl ?_
      refine rw_iconst (v := 1) F dc_X2_shownAhead_44 rfl ?_
      refine rw_icmp_ne (tgt := 52) F dc_X2_shownAhead_45 rfl (fun c3 => ?_) (fun c3 => ?_)
      · refine rw_iconst (v := 0) F dc_X2_shownAhead_52 rfl ?_
        refine rw_ior F dc_X2_shownAhead_53 ?_
        refine rw_iret F dc_X2_shownAhead_54 rfl rfl ?_
        exact ⟨by first | rfl | (simp only [f_X2_shownAhead, if_pos c1, if_neg c2, if_neg c3]; done) | (simp only [f_X2_shownAhead, if_pos c1, if_neg c2, if_neg c3]; rfl), by first | rfl | (simp only [f_X2_shownAhead, if_pos c1, if_neg c2, if_neg c3]; done) | (simp only [f_X2_shownAhead, if_pos c1, if_neg c2, if_neg c3]; rfl)⟩
      · refine rw_iconst (v := 2) F dc_X2_shownAhead_48 rfl ?_
        refine rw_goto (tgt := 53) F dc_X2_shownAhead_49 rfl ?_
        refine rw_ior F dc_X2_shownAhead_53 ?_
        refine rw_iret F dc_X2_shownAhead_54 rfl rfl ?_
        exact ⟨by first | rfl | (simp only [f_X2_shownAhead, if_pos c1, if_neg c2, if_pos c3]; done) | (simp only [f_X2_shownAhead, if_pos c1, if_neg c2, if_pos c3]; rfl), by first | rfl | (simp only [f_X2_shownAhead, if_pos c1, if_neg c2, if_pos c3]; done) | (simp only [f_X2_shownAhead, if_pos c1, if_neg c2, if_pos c3]; rfl)⟩
    · refine rw_iconst (v := 1) F dc_X2_shownAhead_38 rfl ?_
      refine rw_goto (tgt := 43) F dc_X2_shownAhead_39 rfl ?_
      refine rw_iload_n F dc_X2_shownAhead_43 rfl ?_
      refine rw_iconst (v := 1) F dc_X2_shownAhead_44 rfl ?_
      refine rw_icmp_ne (tgt := 52) F dc_X2_shownAhead_45 rfl (fun c4 => ?_) (fun c4 => ?_)
      · refine rw_iconst (v := 0) F dc_X2_shownAhead_52 rfl ?_
        refine rw_ior F dc_X2_shownAhead_53 ?_
        refine rw_iret F dc_X2_shownAhead_54 rfl rfl ?_
        exact ⟨by first | rfl | (simp only [f_X2_shownAhead, if_pos c1, if_pos c2, if_neg c4]; done) | (simp only [f_X2_shownAhead, if_pos c1, if_pos c2, if_neg c4]; rfl), by first | rfl | (simp only [f_X2_shownAhead, if_pos c1, if_pos c2, if_neg c4]; done) | (simp only [f_X2_shownAhead, if_pos c1, if_pos c2, if_neg c4]; rfl)⟩
      · refine rw_iconst (v := 2) F dc_X2_shownAhead_48 rfl ?_
        refine rw_goto (tgt := 53) F dc_X2_shownAhead_49 rfl ?_
        refine rw_ior F dc_X2_shownAhead_53 ?_
        refine rw_iret F dc_X2_shownAhead_54 rfl rfl ?_
        exact ⟨by first | rfl | (simp only [f_X2_shownAhead, if_pos c1, if_pos c2, if_pos c4]; done) | (simp only [f_X2_shownAhead, if_pos c1, if_pos c2, if_pos c4]; rfl), by first | rfl | (simp only [f_X2_shownAhead, if_pos c1, if_pos c2, if_pos c4]; done) | (simp only [f_X2_shownAhead, if_pos c1, if_pos c2, if_pos c4]; rfl)⟩
  · refine rw_aload_n F dc_X2_shownAhead_10 rfl ?_
    refine rw_iload_n F dc_X2_shownAhead_11 rfl ?_
    refine rw_cVi F [_] dc_X2_shownAhead_12 mv_X2_firstAhead ml_RX2_32 (by decide) (rc_2 (by first | rfl | assumption)) rfl rfl (Nat.le_of_ble_eq_true rfl) ct_X2_firstAhead ?_
    refine rw_goto (tgt := 28) F dc_X2_shownAhead_15 rfl ?_
    refine rw_istore_n F dc_X2_shownAhead_28 (by decide) rfl ?_
    refine rw_aload_n F dc_X2_shownAhead_29 rfl ?_
    refine rw_iload_n F dc_X2_shownAhead_30 rfl ?_
    refine rw_cVi F [_] dc_X2_shownAhead_31 mv_X2_firstAhead ml_RX2_32 (by decide) (rc_2 (by first | rfl | assumption)) rfl rfl (Nat.le_of_ble_eq_true rfl) ct_X2_firstAhead ?_
    refine rw_iconst (v := 1) F dc_X2_shownAhead_34 rfl ?_
    refine rw_icmp_ne (tgt := 42) F dc_X2_shownAhead_35 rfl (fun c5 => ?_) (fun c5 => ?_)
    · refine rw_iconst (v := 0) F dc_X2_shownAhead_42 rfl ?_
      refine rw_iload_n F dc_X2_shownAhead_43 rfl ?_
      refine rw_iconst (v := 1) F dc_X2_shownAhead_44 rfl ?_
      refine rw_icmp_ne (tgt := 52) F dc_X2_shownAhead_45 rfl (fun c6 => ?_) (fun c6 => ?_)
      · refine rw_iconst (v := 0) F dc_X2_shownAhead_52 rfl ?_
        refine rw_ior F dc_X2_shownAhead_53 ?_
        refine rw_iret F dc_X2_shownAhead_54 rfl rfl ?_
        exact ⟨by first | rfl | (simp only [f_X2_shownAhead, if_neg c1, if_neg c5, if_neg c6]; done) | (simp only [f_X2_shownAhead, if_neg c1, if_neg c5, if_neg c6]; rfl), by first | rfl | (simp only [f_X2_shownAhead, if_neg c1, if_neg c5, if_neg c6]; done) | (simp only [f_X2_shownAhead, if_neg c1, if_neg c5, if_neg c6]; rfl)⟩
      · refine rw_iconst (v := 2) F dc_X2_shownAhead_48 rfl ?_
        refine rw_goto (tgt := 53) F dc_X2_shownAhead_49 rfl ?_
        refine rw_ior F dc_X2_shownAhead_53 ?_
        refine rw_iret F dc_X2_shownAhead_54 rfl rfl ?_
        exact ⟨by first | rfl | (simp only [f_X2_shownAhead, if_neg c1, if_neg c5, if_pos c6]; done) | (simp only [f_X2_shownAhead, if_neg c1, if_neg c5, if_pos c6]; rfl), by first | rfl | (simp only [f_X2_shownAhead, if_neg c1, if_neg c5, if_pos c6]; done) | (simp only [f_X2_shownAhead, if_neg c1, if_neg c5, if_pos c6]; rfl)⟩
    · refine rw_iconst (v := 1) F dc_X2_shownAhead_38 rfl ?_
      refine rw_goto (tgt := 43) F dc_X2_shownAhead_39 rfl ?_
      refine rw_iload_n F dc_X2_shownAhead_43 rfl ?_
      refine rw_iconst (v := 1) F dc_X2_shownAhead_44 rfl ?_
      refine rw_icmp_ne (tgt := 52) F dc_X2_shownAhead_45 rfl (fun c7 => ?_) (fun c7 => ?_)
      · refine rw_iconst (v := 0) F dc_X2_shownAhead_52 rfl ?_
        refine rw_ior F dc_X2_shownAhead_53 ?_
        refine rw_iret F dc_X2_shownAhead_54 rfl rfl ?_
        exact ⟨by first | rfl | (simp only [f_X2_shownAhead, if_neg c1, if_pos c5, if_neg c7]; done) | (simp only [f_X2_shownAhead, if_neg c1, if_pos c5, if_neg c7]; rfl), by first | rfl | (simp only [f_X2_shownAhead, if_neg c1, if_pos c5, if_neg c7]; done) | (simp only [f_X2_shownAhead, if_neg c1, if_pos c5, if_neg c7]; rfl)⟩
      · refine rw_iconst (v := 2) F dc_X2_shownAhead_48 rfl ?_
        refine rw_goto (tgt := 53) F dc_X2_shownAhead_49 rfl ?_
        refine rw_ior F dc_X2_shownAhead_53 ?_
        refine rw_iret F dc_X2_shownAhead_54 rfl rfl ?_
        exact ⟨by first | rfl | (simp only [f_X2_shownAhead, if_neg c1, if_pos c5, if_pos c7]; done) | (simp only [f_X2_shownAhead, if_neg c1, if_pos c5, if_pos c7]; rfl), by first | rfl | (simp only [f_X2_shownAhead, if_neg c1, if_pos c5, if_pos c7]; done) | (simp only [f_X2_shownAhead, if_neg c1, if_pos c5, if_pos c7]; rfl)⟩
def f_X2_secondAhead (k : Nat) (n : Int32) (τ : tw_T) : Int32 := if ((f_X2_shownAhead k n τ) &&& 2) = 0 then 0 else 1
theorem ct_X2_secondAhead {E : tw_E} {k : Nat} {n : Int32} (hk : tw_isK k 2 = true := by first | rfl | assumption) {τ : tw_T} : tw_Ci E 4 mX2_secondAhead [.ref k, .int n] τ (f_X2_secondAhead k n τ) (τ) := by
  have hlk0 : tw_lk k 0 = 0 := lk2 hk 0
  have hlk1 : tw_lk k 1 = 0 := lk2 hk 1
  have hlk2 : tw_lk k 2 = 0 := lk2 hk 2
  have hlk3 : tw_lk k 3 = 0 := lk2 hk 3
  have hlk4 : tw_lk k 4 = 0 := lk2 hk 4
  refine ct_of (by decide) (by simp [Value.category]) (Nat.le_of_ble_eq_true rfl) (fun K hE F => ?_)
  subst hE
  refine rw_aload_n F dc_X2_secondAhead_0 rfl ?_
  refine rw_iload_n F dc_X2_secondAhead_1 rfl ?_
  refine rw_cVi F [_] dc_X2_secondAhead_2 mv_X2_shownAhead ml_RX2_49 (by decide) (rc_2 (by first | rfl | assumption)) rfl rfl (Nat.le_of_ble_eq_true rfl) ct_X2_shownAhead ?_
  refine rw_iconst (v := 2) F dc_X2_secondAhead_5 rfl ?_
  refine rw_iand F dc_X2_secondAhead_6 ?_
  refine rw_if_eq (tgt := 14) F dc_X2_secondAhead_7 rfl (fun c1 => ?_) (fun c1 => ?_)
  · refine rw_iconst (v := 0) F dc_X2_secondAhead_14 rfl ?_
    refine rw_iret F dc_X2_secondAhead_15 rfl rfl ?_
    exact ⟨by first | rfl | (simp only [f_X2_secondAhead, if_pos c1]; done) | (simp only [f_X2_secondAhead, if_pos c1]; rfl), by first | rfl | (simp only [f_X2_secondAhead, if_pos c1]; done) | (simp only [f_X2_secondAhead, if_pos c1]; rfl)⟩
  · refine rw_iconst (v := 1) F dc_X2_secondAhead_10 rfl ?_
    refine rw_goto (tgt := 15) F dc_X2_secondAhead_11 rfl ?_
    refine rw_iret F dc_X2_secondAhead_15 rfl rfl ?_
    exact ⟨by first | rfl | (simp only [f_X2_secondAhead, if_neg c1]; done) | (simp only [f_X2_secondAhead, if_neg c1]; rfl), by first | rfl | (simp only [f_X2_secondAhead, if_neg c1]; done) | (simp only [f_X2_secondAhead, if_neg c1]; rfl)⟩
def f_X2_told (k : Nat) (what : Int32) (τ : tw_T) : Int32 := if what = 0 then (τ k 0) else (if what = 1 then (τ k 1) else (if what = 2 then (τ k 2) else (if what = 3 then (τ k 3) else (if what = 4 then (f_X2_firstAhead k 0 τ) else (f_X2_secondAhead k 0 τ)))))
theorem ct_X2_told {E : tw_E} {k : Nat} {what : Int32} (hk : tw_isK k 2 = true := by first | rfl | assumption) {τ : tw_T} : tw_Ci E 5 mX2_told [.ref k, .int what] τ (f_X2_told k what τ) (τ) := by
  have hlk0 : tw_lk k 0 = 0 := lk2 hk 0
  have hlk1 : tw_lk k 1 = 0 := lk2 hk 1
  have hlk2 : tw_lk k 2 = 0 := lk2 hk 2
  have hlk3 : tw_lk k 3 = 0 := lk2 hk 3
  have hlk4 : tw_lk k 4 = 0 := lk2 hk 4
  refine ct_of (by decide) (by simp [Value.category]) (Nat.le_of_ble_eq_true rfl) (fun K hE F => ?_)
  subst hE
  refine rw_iload_n F dc_X2_told_0 rfl ?_
  refine rw_tswc (0) 0 36 F dc_X2_told_1 rfl rfl (by decide) (by decide) (fun c1_0 => ?_) (fun c1_0 => ?_)
  · refine rw_aload_n F dc_X2_told_36 rfl ?_
    refine rw_getI F dc_X2_told_37 fl_RX2_9 (by first | rfl | assumption) (by first | rfl | assumption) ?_
    refine rw_iret F dc_X2_told_40 rfl rfl ?_
    exact ⟨by first | rfl | (simp only [f_X2_told, if_pos c1_0]; done) | (simp only [f_X2_told, if_pos c1_0]; rfl), by first | rfl | (simp only [f_X2_told, if_pos c1_0]; done) | (simp only [f_X2_told, if_pos c1_0]; rfl)⟩
  refine rw_tswc (1) 1 41 F dc_X2_told_1 rfl rfl (by decide) (by decide) (fun c1_1 => ?_) (fun c1_1 => ?_)
  · refine rw_aload_n F dc_X2_told_41 rfl ?_
    refine rw_getI F dc_X2_told_42 fl_RX2_15 (by first | rfl | assumption) (by first | rfl | assumption) ?_
    refine rw_iret F dc_X2_told_45 rfl rfl ?_
    exact ⟨by first | rfl | (simp only [f_X2_told, if_neg c1_0, if_pos c1_1]; done) | (simp only [f_X2_told, if_neg c1_0, if_pos c1_1]; rfl), by first | rfl | (simp only [f_X2_told, if_neg c1_0, if_pos c1_1]; done) | (simp only [f_X2_told, if_neg c1_0, if_pos c1_1]; rfl)⟩
  refine rw_tswc (2) 2 46 F dc_X2_told_1 rfl rfl (by decide) (by decide) (fun c1_2 => ?_) (fun c1_2 => ?_)
  · refine rw_aload_n F dc_X2_told_46 rfl ?_
    refine rw_getI F dc_X2_told_47 fl_RX2_18 (by first | rfl | assumption) (by first | rfl | assumption) ?_
    refine rw_iret F dc_X2_told_50 rfl rfl ?_
    exact ⟨by first | rfl | (simp only [f_X2_told, if_neg c1_0, if_neg c1_1, if_pos c1_2]; done) | (simp only [f_X2_told, if_neg c1_0, if_neg c1_1, if_pos c1_2]; rfl), by first | rfl | (simp only [f_X2_told, if_neg c1_0, if_neg c1_1, if_pos c1_2]; done) | (simp only [f_X2_told, if_neg c1_0, if_neg c1_1, if_pos c1_2]; rfl)⟩
  refine rw_tswc (3) 3 51 F dc_X2_told_1 rfl rfl (by decide) (by decide) (fun c1_3 => ?_) (fun c1_3 => ?_)
  · refine rw_aload_n F dc_X2_told_51 rfl ?_
    refine rw_getI F dc_X2_told_52 fl_RX2_21 (by first | rfl | assumption) (by first | rfl | assumption) ?_
    refine rw_iret F dc_X2_told_55 rfl rfl ?_
    exact ⟨by first | rfl | (simp only [f_X2_told, if_neg c1_0, if_neg c1_1, if_neg c1_2, if_pos c1_3]; done) | (simp only [f_X2_told, if_neg c1_0, if_neg c1_1, if_neg c1_2, if_pos c1_3]; rfl), by first | rfl | (simp only [f_X2_told, if_neg c1_0, if_neg c1_1, if_neg c1_2, if_pos c1_3]; done) | (simp only [f_X2_told, if_neg c1_0, if_neg c1_1, if_neg c1_2, if_pos c1_3]; rfl)⟩
  refine rw_tswc (4) 4 56 F dc_X2_told_1 rfl rfl (by decide) (by decide) (fun c1_4 => ?_) (fun c1_4 => ?_)
  · refine rw_aload_n F dc_X2_told_56 rfl ?_
    refine rw_iconst (v := 0) F dc_X2_told_57 rfl ?_
    refine rw_cVi F [_] dc_X2_told_58 mv_X2_firstAhead ml_RX2_32 (by decide) (rc_2 (by first | rfl | assumption)) rfl rfl (Nat.le_of_ble_eq_true rfl) ct_X2_firstAhead ?_
    refine rw_iret F dc_X2_told_61 rfl rfl ?_
    exact ⟨by first | rfl | (simp only [f_X2_told, if_neg c1_0, if_neg c1_1, if_neg c1_2, if_neg c1_3, if_pos c1_4]; done) | (simp only [f_X2_told, if_neg c1_0, if_neg c1_1, if_neg c1_2, if_neg c1_3, if_pos c1_4]; rfl), by first | rfl | (simp only [f_X2_told, if_neg c1_0, if_neg c1_1, if_neg c1_2, if_neg c1_3, if_pos c1_4]; done) | (simp only [f_X2_told, if_neg c1_0, if_neg c1_1, if_neg c1_2, if_neg c1_3, if_pos c1_4]; rfl)⟩
  refine rw_tsw F dc_X2_told_1 62 (Or.inl ⟨by have h0 := lv_neT c1_0 (a := 0) (by decide); have h1 := lv_neT c1_1 (a := 1) (by decide); have h2 := lv_neT c1_2 (a := 2) (by decide); have h3 := lv_neT c1_3 (a := 3) (by decide); have h4 := lv_neT c1_4 (a := 4) (by decide); omega, by decide⟩) ?_
  refine rw_aload_n F dc_X2_told_62 rfl ?_
  refine rw_iconst (v := 0) F dc_X2_told_63 rfl ?_
  refine rw_cVi F [_] dc_X2_told_64 mv_X2_secondAhead ml_RX2_36 (by decide) (rc_2 (by first | rfl | assumption)) rfl rfl (Nat.le_of_ble_eq_true rfl) ct_X2_secondAhead ?_
  refine rw_iret F dc_X2_told_67 rfl rfl ?_
  exact ⟨by first | rfl | (simp only [f_X2_told, if_neg c1_0, if_neg c1_1, if_neg c1_2, if_neg c1_3, if_neg c1_4]; done) | (simp only [f_X2_told, if_neg c1_0, if_neg c1_1, if_neg c1_2, if_neg c1_3, if_neg c1_4]; rfl), by first | rfl | (simp only [f_X2_told, if_neg c1_0, if_neg c1_1, if_neg c1_2, if_neg c1_3, if_neg c1_4]; done) | (simp only [f_X2_told, if_neg c1_0, if_neg c1_1, if_neg c1_2, if_neg c1_3, if_neg c1_4]; rfl)⟩
def g_X2_passTick (k : Nat) (τ : tw_T) : tw_T := tw_sr (tw_sr τ k (upd (τ k) 3 ((((τ k 3) <<< (1 &&& 31)) ||| (f_X2_firstAhead k 0 τ)) &&& 16777215))) k (upd ((tw_sr τ k (upd (τ k) 3 ((((τ k 3) <<< (1 &&& 31)) ||| (f_X2_firstAhead k 0 τ)) &&& 16777215))) k) 4 (f_X2_tickAhead k 1 (tw_sr τ k (upd (τ k) 3 ((((τ k 3) <<< (1 &&& 31)) ||| (f_X2_firstAhead k 0 τ)) &&& 16777215)))))
theorem ct_X2_passTick {E : tw_E} {k : Nat} (hk : tw_isK k 2 = true := by first | rfl | assumption) {τ : tw_T} : tw_Cv E 3 mX2_passTick [.ref k] τ (g_X2_passTick k τ) := by
  have hlk0 : tw_lk k 0 = 0 := lk2 hk 0
  have hlk1 : tw_lk k 1 = 0 := lk2 hk 1
  have hlk2 : tw_lk k 2 = 0 := lk2 hk 2
  have hlk3 : tw_lk k 3 = 0 := lk2 hk 3
  have hlk4 : tw_lk k 4 = 0 := lk2 hk 4
  refine ct_of (by decide) (by simp [Value.category]) (Nat.le_of_ble_eq_true rfl) (fun K hE F => ?_)
  subst hE
  refine rw_aload_n F dc_X2_passTick_0 rfl ?_
  refine rw_aload_n F dc_X2_passTick_1 rfl ?_
  refine rw_getI F dc_X2_passTick_2 fl_RX2_21 (by first | rfl | assumption) (by first | rfl | assumption) ?_
  refine rw_iconst (v := 1) F dc_X2_passTick_5 rfl ?_
  refine rw_ishl F dc_X2_passTick_6 ?_
  refine rw_aload_n F dc_X2_passTick_7 rfl ?_
  refine rw_iconst (v := 0) F dc_X2_passTick_8 rfl ?_
  refine rw_cVi F [_] dc_X2_passTick_9 mv_X2_firstAhead ml_RX2_32 (by decide) (rc_2 (by first | rfl | assumption)) rfl rfl (Nat.le_of_ble_eq_true rfl) ct_X2_firstAhead ?_
  refine rw_ior F dc_X2_passTick_12 ?_
  refine rw_ldc F dc_X2_passTick_13 kc_RX2_31 ?_
  refine rw_iand F dc_X2_passTick_15 ?_
  refine rw_put F dc_X2_passTick_16 pf_RX2_21 (by first | rfl | assumption) (by first | rfl | assumption) rfl rfl ?_
  refine rw_aload_n F dc_X2_passTick_19 rfl ?_
  refine rw_aload_n F dc_X2_passTick_20 rfl ?_
  refine rw_iconst (v := 1) F dc_X2_passTick_21 rfl ?_
  refine rw_cVi F [_] dc_X2_passTick_22 mv_X2_tickAhead ml_RX2_46 (by decide) (rc_2 (by first | rfl | assumption)) rfl rfl (Nat.le_of_ble_eq_true rfl) ct_X2_tickAhead ?_
  refine rw_put F dc_X2_passTick_25 pf_RX2_24 (by first | rfl | assumption) (by first | rfl | assumption) rfl rfl ?_
  refine rw_vret F dc_X2_passTick_28 rfl ?_
  exact ⟨rfl, by first | rfl | (simp only [g_X2_passTick]; done) | (simp only [g_X2_passTick]; rfl)⟩
