theorem lk6 : ∀ {k : Nat}, tw_isK k 6 = true → ∀ j, tw_lk k j = 0 := by
  have h : ∀ k, k < 202 → (tw_sh k).1 = 6 → tw_lkL.getD k [] = [] := by decide +kernel
  intro k hk j
  unfold tw_lk
  rw [h k (isK_of hk).1 (isK_of hk).2]
  rfl
theorem lk2 : ∀ {k : Nat}, tw_isK k 2 = true → ∀ j, tw_lk k j = 0 := by
  have h : ∀ k, k < 202 → (tw_sh k).1 = 2 → tw_lkL.getD k [] = [] := by decide +kernel
  intro k hk j
  unfold tw_lk
  rw [h k (isK_of hk).1 (isK_of hk).2]
  rfl
def s_wi (v lo hi : Int32) : Int32 := if v < lo then 0 else if hi < v then 0 else 1
theorem ct_X8_within {E : tw_E} {v lo hi : Int32} {τ : tw_T} : tw_Ci E 1 mX8_within [.int v, .int lo, .int hi] τ (s_wi v lo hi) (τ) := by
  refine ct_of (by decide) (by simp [Value.category]) (Nat.le_of_ble_eq_true rfl) (fun K hE F => ?_)
  subst hE
  refine rw_iload_n F dc_X8_within_0 rfl ?_
  refine rw_iload_n F dc_X8_within_1 rfl ?_
  refine rw_icmp_lt (tgt := 14) F dc_X8_within_2 rfl (fun c1 => ?_) (fun c1 => ?_)
  · refine rw_iconst (v := 0) F dc_X8_within_14 rfl ?_
    refine rw_iret F dc_X8_within_15 rfl rfl ?_
    exact ⟨by first | rfl | simp only [s_wi, if_pos c1], rfl⟩
  · refine rw_iload_n F dc_X8_within_5 rfl ?_
    refine rw_iload_n F dc_X8_within_6 rfl ?_
    refine rw_icmp_gt (tgt := 14) F dc_X8_within_7 rfl (fun c2 => ?_) (fun c2 => ?_)
    · refine rw_iconst (v := 0) F dc_X8_within_14 rfl ?_
      refine rw_iret F dc_X8_within_15 rfl rfl ?_
      exact ⟨by first | rfl | simp only [s_wi, if_neg c1, if_pos c2], rfl⟩
    · refine rw_iconst (v := 1) F dc_X8_within_10 rfl ?_
      refine rw_goto (tgt := 15) F dc_X8_within_11 rfl ?_
      refine rw_iret F dc_X8_within_15 rfl rfl ?_
      exact ⟨by first | rfl | simp only [s_wi, if_neg c1, if_neg c2], rfl⟩
def s_near (c : Int32) : Int32 := (if 8 < c then 0 else 1) ||| (if 8 < 23 - c then 0 else 2)
theorem ct_X6_lightsNear {E : tw_E} {k : Nat} (hk : tw_isK k 6 = true := by first | rfl | assumption) {τ : tw_T} : tw_Ci E 1 mX6_lightsNear [.ref k] τ (s_near (τ k 1)) (τ) := by
  have hl1 : tw_lk k 1 = 0 := lk6 hk 1
  refine ct_of (by decide) (by simp [Value.category]) (Nat.le_of_ble_eq_true rfl) (fun K hE F => ?_)
  subst hE
  refine rw_aload_n F dc_X6_lightsNear_0 rfl ?_
  refine rw_getI F dc_X6_lightsNear_1 fl_RX6_15 (by first | rfl | assumption) (by first | rfl | assumption) ?_
  refine rw_bipush (v := 8) F dc_X6_lightsNear_4 rfl ?_
  refine rw_icmp_gt (tgt := 13) F dc_X6_lightsNear_6 rfl (fun c1 => ?_) (fun c1 => ?_)
  · refine rw_iconst (v := 0) F dc_X6_lightsNear_13 rfl ?_
    refine rw_bipush (v := 23) F dc_X6_lightsNear_14 rfl ?_
    refine rw_aload_n F dc_X6_lightsNear_16 rfl ?_
    refine rw_getI F dc_X6_lightsNear_17 fl_RX6_15 (by first | rfl | assumption) (by first | rfl | assumption) ?_
    refine rw_isub F dc_X6_lightsNear_20 ?_
    refine rw_bipush (v := 8) F dc_X6_lightsNear_21 rfl ?_
    refine rw_icmp_gt (tgt := 30) F dc_X6_lightsNear_23 rfl (fun c2 => ?_) (fun c2 => ?_)
    · refine rw_iconst (v := 0) F dc_X6_lightsNear_30 rfl ?_
      refine rw_ior F dc_X6_lightsNear_31 ?_
      refine rw_iret F dc_X6_lightsNear_32 rfl rfl ?_
      exact ⟨by first | rfl | simp only [s_near, if_pos c1, if_pos c2], rfl⟩
    · refine rw_iconst (v := 2) F dc_X6_lightsNear_26 rfl ?_
      refine rw_goto (tgt := 31) F dc_X6_lightsNear_27 rfl ?_
      refine rw_ior F dc_X6_lightsNear_31 ?_
      refine rw_iret F dc_X6_lightsNear_32 rfl rfl ?_
      exact ⟨by first | rfl | simp only [s_near, if_pos c1, if_neg c2], rfl⟩
  · refine rw_iconst (v := 1) F dc_X6_lightsNear_9 rfl ?_
    refine rw_goto (tgt := 14) F dc_X6_lightsNear_10 rfl ?_
    refine rw_bipush (v := 23) F dc_X6_lightsNear_14 rfl ?_
    refine rw_aload_n F dc_X6_lightsNear_16 rfl ?_
    refine rw_getI F dc_X6_lightsNear_17 fl_RX6_15 (by first | rfl | assumption) (by first | rfl | assumption) ?_
    refine rw_isub F dc_X6_lightsNear_20 ?_
    refine rw_bipush (v := 8) F dc_X6_lightsNear_21 rfl ?_
    refine rw_icmp_gt (tgt := 30) F dc_X6_lightsNear_23 rfl (fun c3 => ?_) (fun c3 => ?_)
    · refine rw_iconst (v := 0) F dc_X6_lightsNear_30 rfl ?_
      refine rw_ior F dc_X6_lightsNear_31 ?_
      refine rw_iret F dc_X6_lightsNear_32 rfl rfl ?_
      exact ⟨by first | rfl | simp only [s_near, if_neg c1, if_pos c3], rfl⟩
    · refine rw_iconst (v := 2) F dc_X6_lightsNear_26 rfl ?_
      refine rw_goto (tgt := 31) F dc_X6_lightsNear_27 rfl ?_
      refine rw_ior F dc_X6_lightsNear_31 ?_
      refine rw_iret F dc_X6_lightsNear_32 rfl rfl ?_
      exact ⟨by first | rfl | simp only [s_near, if_neg c1, if_neg c3], rfl⟩
def s_seen (r : Nat → Int32) (shown tick : Int32) : Int32 := if r 0 = 1 then shown &&& s_near (r 1) else if r 0 = 2 then (if tick - tick / 2 * 2 = 0 then shown else 0) else if r 0 = 3 then (if tick - tick / 2 * 2 = 0 then shown else (if 1 < r 3 then 0 else shown)) else if r 0 = 4 then shown &&& 2 else if r 0 = 5 then shown ^^^ 3 else if r 0 = 6 then (if r 1 - r 1 / 2 * 2 = 0 then shown else shown &&& s_near (r 1)) else shown
theorem ct_X6_seen {E : tw_E} {k : Nat} (hk : tw_isK k 6 = true := by first | rfl | assumption) {shown tick : Int32} {τ : tw_T} : tw_Ci E 2 mX6_seen [.ref k, .int shown, .int tick] τ (s_seen (τ k) shown tick) (τ) := by
  have hl0 : tw_lk k 0 = 0 := lk6 hk 0
  have hl1 : tw_lk k 1 = 0 := lk6 hk 1
  have hl3 : tw_lk k 3 = 0 := lk6 hk 3
  refine ct_of (by decide) (by simp [Value.category]) (Nat.le_of_ble_eq_true rfl) (fun K hE F => ?_)
  subst hE
  refine rw_iload_n F dc_X6_seen_0 rfl ?_
  refine rw_iconst (v := 2) F dc_X6_seen_1 rfl ?_
  refine rw_irem F dc_X6_seen_2 (by decide) ?_
  refine rw_if_ne (tgt := 10) F dc_X6_seen_3 rfl (fun c1 => ?_) (fun c1 => ?_)
  · refine rw_iconst (v := 0) F dc_X6_seen_10 rfl ?_
    refine rw_istore_n F dc_X6_seen_11 (by decide) rfl ?_
    refine rw_aload_n F dc_X6_seen_12 rfl ?_
    refine rw_getI F dc_X6_seen_13 fl_RX6_9 (by first | rfl | assumption) (by first | rfl | assumption) ?_
    refine rw_tswc (1) 0 56 F dc_X6_seen_16 rfl rfl (by decide) (by decide) (fun c2_1 => ?_) (fun c2_1 => ?_)
    · refine rw_iload_n F dc_X6_seen_56 rfl ?_
      refine rw_aload_n F dc_X6_seen_57 rfl ?_
      refine rw_cVi F [] dc_X6_seen_58 mv_X6_lightsNear ml_RX6_37 (by decide) (rc_6 (by first | rfl | assumption)) rfl rfl (Nat.le_of_ble_eq_true rfl) ct_X6_lightsNear ?_
      refine rw_iand F dc_X6_seen_61 ?_
      refine rw_iret F dc_X6_seen_62 rfl rfl ?_
      exact ⟨by first | rfl | simp only [s_seen, if_neg c1, if_pos c2_1], rfl⟩
    refine rw_tswc (2) 1 83 F dc_X6_seen_16 rfl rfl (by decide) (by decide) (fun c2_2 => ?_) (fun c2_2 => ?_)
    · refine rw_iload_n F dc_X6_seen_83 rfl ?_
      refine rw_if_eq (tgt := 91) F dc_X6_seen_84 rfl (fun c3 => ?_) (fun c3 => ?_)
      · refine rw_iconst (v := 0) F dc_X6_seen_91 rfl ?_
        refine rw_iret F dc_X6_seen_92 rfl rfl ?_
        exact ⟨by first | rfl | simp only [s_seen, if_neg c1, if_neg c2_1, if_pos c2_2], rfl⟩
      · exact absurd c3 (by decide)
    refine rw_tswc (3) 2 93 F dc_X6_seen_16 rfl rfl (by decide) (by decide) (fun c2_3 => ?_) (fun c2_3 => ?_)
    · refine rw_iload_n F dc_X6_seen_93 rfl ?_
      refine rw_if_ne (tgt := 105) F dc_X6_seen_94 rfl (fun c4 => ?_) (fun c4 => ?_)
      · exact absurd c4 (by decide)
      · refine rw_aload_n F dc_X6_seen_97 rfl ?_
        refine rw_getI F dc_X6_seen_98 fl_RX6_21 (by first | rfl | assumption) (by first | rfl | assumption) ?_
        refine rw_iconst (v := 1) F dc_X6_seen_101 rfl ?_
        refine rw_icmp_gt (tgt := 109) F dc_X6_seen_102 rfl (fun c5 => ?_) (fun c5 => ?_)
        · refine rw_iconst (v := 0) F dc_X6_seen_109 rfl ?_
          refine rw_iret F dc_X6_seen_110 rfl rfl ?_
          exact ⟨by first | rfl | simp only [s_seen, if_neg c1, if_neg c2_1, if_neg c2_2, if_pos c2_3, if_pos c5], rfl⟩
        · refine rw_iload_n F dc_X6_seen_105 rfl ?_
          refine rw_goto (tgt := 110) F dc_X6_seen_106 rfl ?_
          refine rw_iret F dc_X6_seen_110 rfl rfl ?_
          exact ⟨by first | rfl | simp only [s_seen, if_neg c1, if_neg c2_1, if_neg c2_2, if_pos c2_3, if_neg c5], rfl⟩
    refine rw_tswc (4) 3 111 F dc_X6_seen_16 rfl rfl (by decide) (by decide) (fun c2_4 => ?_) (fun c2_4 => ?_)
    · refine rw_iload_n F dc_X6_seen_111 rfl ?_
      refine rw_iconst (v := 2) F dc_X6_seen_112 rfl ?_
      refine rw_iand F dc_X6_seen_113 ?_
      refine rw_iret F dc_X6_seen_114 rfl rfl ?_
      exact ⟨by first | rfl | simp only [s_seen, if_neg c1, if_neg c2_1, if_neg c2_2, if_neg c2_3, if_pos c2_4], rfl⟩
    refine rw_tswc (5) 4 115 F dc_X6_seen_16 rfl rfl (by decide) (by decide) (fun c2_5 => ?_) (fun c2_5 => ?_)
    · refine rw_iload_n F dc_X6_seen_115 rfl ?_
      refine rw_iconst (v := 3) F dc_X6_seen_116 rfl ?_
      refine rw_ixor F dc_X6_seen_117 ?_
      refine rw_iret F dc_X6_seen_118 rfl rfl ?_
      exact ⟨by first | rfl | simp only [s_seen, if_neg c1, if_neg c2_1, if_neg c2_2, if_neg c2_3, if_neg c2_4, if_pos c2_5], rfl⟩
    refine rw_tswc (6) 5 63 F dc_X6_seen_16 rfl rfl (by decide) (by decide) (fun c2_6 => ?_) (fun c2_6 => ?_)
    · refine rw_aload_n F dc_X6_seen_63 rfl ?_
      refine rw_getI F dc_X6_seen_64 fl_RX6_15 (by first | rfl | assumption) (by first | rfl | assumption) ?_
      refine rw_iconst (v := 2) F dc_X6_seen_67 rfl ?_
      refine rw_irem F dc_X6_seen_68 (by decide) ?_
      refine rw_if_ne (tgt := 76) F dc_X6_seen_69 rfl (fun c6 => ?_) (fun c6 => ?_)
      · refine rw_iload_n F dc_X6_seen_76 rfl ?_
        refine rw_aload_n F dc_X6_seen_77 rfl ?_
        refine rw_cVi F [] dc_X6_seen_78 mv_X6_lightsNear ml_RX6_37 (by decide) (rc_6 (by first | rfl | assumption)) rfl rfl (Nat.le_of_ble_eq_true rfl) ct_X6_lightsNear ?_
        refine rw_iand F dc_X6_seen_81 ?_
        refine rw_iret F dc_X6_seen_82 rfl rfl ?_
        exact ⟨by first | rfl | simp only [s_seen, if_neg c1, if_neg c2_1, if_neg c2_2, if_neg c2_3, if_neg c2_4, if_neg c2_5, if_pos c2_6, if_neg c6], rfl⟩
      · refine rw_iload_n F dc_X6_seen_72 rfl ?_
        refine rw_goto (tgt := 82) F dc_X6_seen_73 rfl ?_
        refine rw_iret F dc_X6_seen_82 rfl rfl ?_
        exact ⟨by first | rfl | simp only [s_seen, if_neg c1, if_neg c2_1, if_neg c2_2, if_neg c2_3, if_neg c2_4, if_neg c2_5, if_pos c2_6, if_pos c6], rfl⟩
    refine rw_tsw F dc_X6_seen_16 119 (Or.inl ⟨by have h0 := lv_neT c2_1 (a := 1) (by decide); have h1 := lv_neT c2_2 (a := 2) (by decide); have h2 := lv_neT c2_3 (a := 3) (by decide); have h3 := lv_neT c2_4 (a := 4) (by decide); have h4 := lv_neT c2_5 (a := 5) (by decide); have h5 := lv_neT c2_6 (a := 6) (by decide); omega, by decide⟩) ?_
    refine rw_iload_n F dc_X6_seen_119 rfl ?_
    refine rw_iret F dc_X6_seen_120 rfl rfl ?_
    exact ⟨by first | rfl | simp only [s_seen, if_neg c1, if_neg c2_1, if_neg c2_2, if_neg c2_3, if_neg c2_4, if_neg c2_5, if_neg c2_6], rfl⟩
  · refine rw_iconst (v := 1) F dc_X6_seen_6 rfl ?_
    refine rw_goto (tgt := 11) F dc_X6_seen_7 rfl ?_
    refine rw_istore_n F dc_X6_seen_11 (by decide) rfl ?_
    refine rw_aload_n F dc_X6_seen_12 rfl ?_
    refine rw_getI F dc_X6_seen_13 fl_RX6_9 (by first | rfl | assumption) (by first | rfl | assumption) ?_
    refine rw_tswc (1) 0 56 F dc_X6_seen_16 rfl rfl (by decide) (by decide) (fun c7_1 => ?_) (fun c7_1 => ?_)
    · refine rw_iload_n F dc_X6_seen_56 rfl ?_
      refine rw_aload_n F dc_X6_seen_57 rfl ?_
      refine rw_cVi F [] dc_X6_seen_58 mv_X6_lightsNear ml_RX6_37 (by decide) (rc_6 (by first | rfl | assumption)) rfl rfl (Nat.le_of_ble_eq_true rfl) ct_X6_lightsNear ?_
      refine rw_iand F dc_X6_seen_61 ?_
      refine rw_iret F dc_X6_seen_62 rfl rfl ?_
      exact ⟨by first | rfl | simp only [s_seen, if_pos c1, if_pos c7_1], rfl⟩
    refine rw_tswc (2) 1 83 F dc_X6_seen_16 rfl rfl (by decide) (by decide) (fun c7_2 => ?_) (fun c7_2 => ?_)
    · refine rw_iload_n F dc_X6_seen_83 rfl ?_
      refine rw_if_eq (tgt := 91) F dc_X6_seen_84 rfl (fun c8 => ?_) (fun c8 => ?_)
      · exact absurd c8 (by decide)
      · refine rw_iload_n F dc_X6_seen_87 rfl ?_
        refine rw_goto (tgt := 92) F dc_X6_seen_88 rfl ?_
        refine rw_iret F dc_X6_seen_92 rfl rfl ?_
        exact ⟨by first | rfl | simp only [s_seen, if_pos c1, if_neg c7_1, if_pos c7_2], rfl⟩
    refine rw_tswc (3) 2 93 F dc_X6_seen_16 rfl rfl (by decide) (by decide) (fun c7_3 => ?_) (fun c7_3 => ?_)
    · refine rw_iload_n F dc_X6_seen_93 rfl ?_
      refine rw_if_ne (tgt := 105) F dc_X6_seen_94 rfl (fun c9 => ?_) (fun c9 => ?_)
      · refine rw_iload_n F dc_X6_seen_105 rfl ?_
        refine rw_goto (tgt := 110) F dc_X6_seen_106 rfl ?_
        refine rw_iret F dc_X6_seen_110 rfl rfl ?_
        exact ⟨by first | rfl | simp only [s_seen, if_pos c1, if_neg c7_1, if_neg c7_2, if_pos c7_3], rfl⟩
      · exact absurd c9 (by decide)
    refine rw_tswc (4) 3 111 F dc_X6_seen_16 rfl rfl (by decide) (by decide) (fun c7_4 => ?_) (fun c7_4 => ?_)
    · refine rw_iload_n F dc_X6_seen_111 rfl ?_
      refine rw_iconst (v := 2) F dc_X6_seen_112 rfl ?_
      refine rw_iand F dc_X6_seen_113 ?_
      refine rw_iret F dc_X6_seen_114 rfl rfl ?_
      exact ⟨by first | rfl | simp only [s_seen, if_pos c1, if_neg c7_1, if_neg c7_2, if_neg c7_3, if_pos c7_4], rfl⟩
    refine rw_tswc (5) 4 115 F dc_X6_seen_16 rfl rfl (by decide) (by decide) (fun c7_5 => ?_) (fun c7_5 => ?_)
    · refine rw_iload_n F dc_X6_seen_115 rfl ?_
      refine rw_iconst (v := 3) F dc_X6_seen_116 rfl ?_
      refine rw_ixor F dc_X6_seen_117 ?_
      refine rw_iret F dc_X6_seen_118 rfl rfl ?_
      exact ⟨by first | rfl | simp only [s_seen, if_pos c1, if_neg c7_1, if_neg c7_2, if_neg c7_3, if_neg c7_4, if_pos c7_5], rfl⟩
    refine rw_tswc (6) 5 63 F dc_X6_seen_16 rfl rfl (by decide) (by decide) (fun c7_6 => ?_) (fun c7_6 => ?_)
    · refine rw_aload_n F dc_X6_seen_63 rfl ?_
      refine rw_getI F dc_X6_seen_64 fl_RX6_15 (by first | rfl | assumption) (by first | rfl | assumption) ?_
      refine rw_iconst (v := 2) F dc_X6_seen_67 rfl ?_
      refine rw_irem F dc_X6_seen_68 (by decide) ?_
      refine rw_if_ne (tgt := 76) F dc_X6_seen_69 rfl (fun c10 => ?_) (fun c10 => ?_)
      · refine rw_iload_n F dc_X6_seen_76 rfl ?_
        refine rw_aload_n F dc_X6_seen_77 rfl ?_
        refine rw_cVi F [] dc_X6_seen_78 mv_X6_lightsNear ml_RX6_37 (by decide) (rc_6 (by first | rfl | assumption)) rfl rfl (Nat.le_of_ble_eq_true rfl) ct_X6_lightsNear ?_
        refine rw_iand F dc_X6_seen_81 ?_
        refine rw_iret F dc_X6_seen_82 rfl rfl ?_
        exact ⟨by first | rfl | simp only [s_seen, if_pos c1, if_neg c7_1, if_neg c7_2, if_neg c7_3, if_neg c7_4, if_neg c7_5, if_pos c7_6, if_neg c10], rfl⟩
      · refine rw_iload_n F dc_X6_seen_72 rfl ?_
        refine rw_goto (tgt := 82) F dc_X6_seen_73 rfl ?_
        refine rw_iret F dc_X6_seen_82 rfl rfl ?_
        exact ⟨by first | rfl | simp only [s_seen, if_pos c1, if_neg c7_1, if_neg c7_2, if_neg c7_3, if_neg c7_4, if_neg c7_5, if_pos c7_6, if_pos c10], rfl⟩
    refine rw_tsw F dc_X6_seen_16 119 (Or.inl ⟨by have h0 := lv_neT c7_1 (a := 1) (by decide); have h1 := lv_neT c7_2 (a := 2) (by decide); have h2 := lv_neT c7_3 (a := 3) (by decide); have h3 := lv_neT c7_4 (a := 4) (by decide); have h4 := lv_neT c7_5 (a := 5) (by decide); have h5 := lv_neT c7_6 (a := 6) (by decide); omega, by decide⟩) ?_
    refine rw_iload_n F dc_X6_seen_119 rfl ?_
    refine rw_iret F dc_X6_seen_120 rfl rfl ?_
    exact ⟨by first | rfl | simp only [s_seen, if_pos c1, if_neg c7_1, if_neg c7_2, if_neg c7_3, if_neg c7_4, if_neg c7_5, if_neg c7_6], rfl⟩
def s_goes (r : Nat → Int32) (tick : Int32) : Int32 := sorry
