theorem ct_J0_coder_7d493 {E : tw_E} {w : Nat} {τ : tw_T} (hw : w < 28) : tw_Ci E 1 mJ0_coder_7d493 [.ref (202 + w)] τ 0 τ := by
  refine ct_of (by decide) (by simp [Value.category]) (Nat.le_of_ble_eq_true rfl) (fun K hE F => ?_)
  subst hE
  refine rw_compact F dc_J0_coder_7d493_0 fw_RJ0_38 ?_
  refine rw_if_eq (tgt := 13) F dc_J0_coder_7d493_3 rfl (fun c1 => ?_) (fun c1 => ?_)
  · exact absurd c1 (by decide)
  · refine rw_aload_n F dc_J0_coder_7d493_6 rfl ?_
    refine rw_scoder F dc_J0_coder_7d493_7 (by first | rfl | assumption) fw_RJ0_15 ?_
    refine rw_goto (tgt := 14) F dc_J0_coder_7d493_10 rfl ?_
    refine rw_iret F dc_J0_coder_7d493_14 rfl rfl ?_
    exact ⟨rfl, rfl⟩
theorem ct_J0_isLatin1_aae02 {E : tw_E} {w : Nat} {τ : tw_T} (hw : w < 28) : tw_Ci E 1 mJ0_isLatin1_aae02 [.ref (202 + w)] τ 1 τ := by
  refine ct_of (by decide) (by simp [Value.category]) (Nat.le_of_ble_eq_true rfl) (fun K hE F => ?_)
  subst hE
  refine rw_compact F dc_J0_isLatin1_aae02_0 fw_RJ0_38 ?_
  refine rw_if_eq (tgt := 17) F dc_J0_isLatin1_aae02_3 rfl (fun c1 => ?_) (fun c1 => ?_)
  · exact absurd c1 (by decide)
  · refine rw_aload_n F dc_J0_isLatin1_aae02_6 rfl ?_
    refine rw_scoder F dc_J0_isLatin1_aae02_7 (by first | rfl | assumption) fw_RJ0_15 ?_
    refine rw_if_ne (tgt := 17) F dc_J0_isLatin1_aae02_10 rfl (fun c2 => ?_) (fun c2 => ?_)
    · exact absurd rfl c2
    · refine rw_iconst (v := 1) F dc_J0_isLatin1_aae02_13 rfl ?_
      refine rw_goto (tgt := 18) F dc_J0_isLatin1_aae02_14 rfl ?_
      refine rw_iret F dc_J0_isLatin1_aae02_18 rfl rfl ?_
      exact ⟨rfl, rfl⟩
theorem ct_J0_length_8abf5 {E : tw_E} {w : Nat} {τ : tw_T} (hw : w < 28) : tw_Ci E 2 mJ0_length_8abf5 [.ref (202 + w)] τ (nI (tw_byt.getD w []).length) τ := by
  refine ct_of (by decide) (by simp [Value.category]) (Nat.le_of_ble_eq_true rfl) (fun K hE F => ?_)
  subst hE
  refine rw_aload_n F dc_J0_length_8abf5_0 rfl ?_
  refine rw_sval F dc_J0_length_8abf5_1 (by first | rfl | assumption) fw_RJ0_9 ?_
  refine rw_blen F dc_J0_length_8abf5_4 (by first | rfl | assumption) ?_
  refine rw_aload_n F dc_J0_length_8abf5_5 rfl ?_
  refine rw_cVsi F [] dc_J0_length_8abf5_6 mv_J0_coder_7d493 ml_RJ0_335 (by decide) (by first | rfl | assumption) rfl rfl rfl (Nat.le_of_ble_eq_true rfl) (ct_J0_coder_7d493 hw) ?_
  refine rw_ishr F dc_J0_length_8abf5_9 ?_
  refine rw_iret F dc_J0_length_8abf5_10 rfl rfl ?_
  exact ⟨by rw [sb_shr0], rfl⟩
theorem ct_J3_checkIndex_8e157 {E : tw_E} {a b : Int32} {v : Value} {τ : tw_T} (hv : v = .null ∨ v = .ref 259) (h0 : ¬ a < 0) (h1 : a < b) : tw_Ci E 1 mJ3_checkIndex_8e157 [.int a, .int b, v] τ a τ := by
  have hc : v.category = 1 := by rcases hv with rfl | rfl <;> rfl
  refine ct_of (by decide) (by rcases hv with rfl | rfl <;> simp [Value.category]) (Nat.le_of_ble_eq_true rfl) (fun K hE F => ?_)
  subst hE
  refine rw_iload_n F dc_J3_checkIndex_8e157_0 rfl ?_
  refine rw_if_lt (tgt := 9) F dc_J3_checkIndex_8e157_1 rfl (fun c1 => ?_) (fun c1 => ?_)
  · exact absurd c1 h0
  · refine rw_iload_n F dc_J3_checkIndex_8e157_4 rfl ?_
    refine rw_iload_n F dc_J3_checkIndex_8e157_5 rfl ?_
    refine rw_icmp_lt (tgt := 16) F dc_J3_checkIndex_8e157_6 rfl (fun c2 => ?_) (fun c2 => ?_)
    · refine rw_iload_n F dc_J3_checkIndex_8e157_16 rfl ?_
      refine rw_iret F dc_J3_checkIndex_8e157_17 rfl rfl ?_
      exact ⟨rfl, rfl⟩
    · exact absurd h1 c2
theorem ct_J0_checkIndex_df160 {E : tw_E} {a b : Int32} {τ : tw_T} (h0 : ¬ a < 0) (h1 : a < b) : tw_Cv E 2 mJ0_checkIndex_df160 [.int a, .int b] τ τ := by
  refine ct_of (by decide) (by simp [Value.category]) (Nat.le_of_ble_eq_true rfl) (fun K hE F => ?_)
  subst hE
  refine rw_iload_n F dc_J0_checkIndex_df160_0 rfl ?_
  refine rw_iload_n F dc_J0_checkIndex_df160_1 rfl ?_
  refine rw_sioobe F dc_J0_checkIndex_df160_2 fw_RJ0_1053 (fun fv hfv => ?_)
  refine rw_cSi F [_, _, _] dc_J0_checkIndex_df160_5 ms_J3_checkIndex_8e157 ml_RJ0_1059 (by decide)  rfl rfl (Nat.le_of_ble_eq_true rfl) (ct_J3_checkIndex_8e157 hfv h0 h1) ?_
  refine rw_pop F dc_J0_checkIndex_df160_8 rfl ?_
  refine rw_vret F dc_J0_checkIndex_df160_9 rfl ?_
  exact ⟨rfl, rfl⟩
theorem vp_c {x : Int32} {n : Nat} (h : vp_in x n) (hn : n < 2 ^ 31) : ¬ x < 0 ∧ x < nI n := by
  obtain ⟨j, hj, rfl⟩ := vp_in_of h hn
  exact ⟨nI_pos (by omega), nI_lt hj hn⟩
theorem byt_all : ∀ w, w < 28 → (tw_byt.getD w []).length ≤ 7 ∧ ∀ j, j < (tw_byt.getD w []).length → ((((tw_byt.getD w []).getD j 0) &&& 255).toUInt32 % 65536).toInt32 = (tw_byt.getD w []).getD j 0 := by decide +kernel
theorem ct_J1_charAt_3b067 {E : tw_E} {w : Nat} {x : Int32} {τ : tw_T} (hw : w < 28) (hx : vp_in x (tw_byt.getD w []).length) : tw_Ci E 3 mJ1_charAt_3b067 [.ref (230 + w), .int x] τ ((tw_byt.getD w []).getD x.toNatClampNeg 0) τ := by
  have hl := (byt_all w hw).1
  have hb := vp_c hx (by omega)
  refine ct_of (by decide) (by simp [Value.category]) (Nat.le_of_ble_eq_true rfl) (fun K hE F => ?_)
  subst hE
  refine rw_iload_n F dc_J1_charAt_3b067_0 rfl ?_
  refine rw_aload_n F dc_J1_charAt_3b067_1 rfl ?_
  refine rw_blen F dc_J1_charAt_3b067_2 (by first | rfl | assumption) ?_
  refine rw_cSv F [_, _] dc_J1_charAt_3b067_3 ms_J0_checkIndex_df160 ml_RJ1_9 (by decide)  rfl rfl (Nat.le_of_ble_eq_true rfl) (ct_J0_checkIndex_df160 hb.1 hb.2) ?_
  refine rw_aload_n F dc_J1_charAt_3b067_6 rfl ?_
  refine rw_iload_n F dc_J1_charAt_3b067_7 rfl ?_
  refine rw_bald F dc_J1_charAt_3b067_8 (by first | rfl | assumption) (by assumption) ?_
  refine rw_sipush (v := 255) F dc_J1_charAt_3b067_9 rfl ?_
  refine rw_iand F dc_J1_charAt_3b067_12 ?_
  refine rw_i2c F dc_J1_charAt_3b067_13 ?_
  refine rw_iret F dc_J1_charAt_3b067_14 rfl (pk_nc _) ?_
  exact ⟨by rw [(byt_all w hw).2 _ (vp_lt hx)], rfl⟩
theorem ct_J0_charAt_5068e {E : tw_E} {w : Nat} {x : Int32} {τ : tw_T} (hx : vp_in x (tw_byt.getD w []).length) (hw : w < 28) : tw_Ci E 5 mJ0_charAt_5068e [.ref (202 + w), .int x] τ ((tw_byt.getD w []).getD x.toNatClampNeg 0) τ := by
  have hn : narrow .char (.int ((tw_byt.getD w []).getD x.toNatClampNeg 0)) = .int ((tw_byt.getD w []).getD x.toNatClampNeg 0) := by
    rw [← (byt_all w hw).2 _ (vp_lt hx)]
    exact pk_nc _
  refine ct_of (by decide) (by simp [Value.category]) (Nat.le_of_ble_eq_true rfl) (fun K hE F => ?_)
  subst hE
  refine rw_aload_n F dc_J0_charAt_5068e_0 rfl ?_
  refine rw_cVsi F [] dc_J0_charAt_5068e_1 mv_J0_isLatin1_aae02 ml_RJ0_492 (by decide) (by first | rfl | assumption) rfl rfl rfl (Nat.le_of_ble_eq_true rfl) (ct_J0_isLatin1_aae02 hw) ?_
  refine rw_if_eq (tgt := 16) F dc_J0_charAt_5068e_4 rfl (fun c1 => ?_) (fun c1 => ?_)
  · exact absurd c1 (by decide)
  · refine rw_aload_n F dc_J0_charAt_5068e_7 rfl ?_
    refine rw_sval F dc_J0_charAt_5068e_8 (by first | rfl | assumption) fw_RJ0_9 ?_
    refine rw_iload_n F dc_J0_charAt_5068e_11 rfl ?_
    refine rw_cSi F [_, _] dc_J0_charAt_5068e_12 ms_J1_charAt_3b067 ml_RJ0_495 (by decide)  rfl rfl (Nat.le_of_ble_eq_true rfl) (ct_J1_charAt_3b067 hw hx) ?_
    refine rw_iret F dc_J0_charAt_5068e_15 rfl hn ?_
    exact ⟨rfl, rfl⟩
