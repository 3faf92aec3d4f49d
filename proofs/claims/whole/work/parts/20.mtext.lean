def g_X9_addItem  (x1 : Int32) (x2 : Int32) (x3 : Int32) (x4 : Int32) (x5 : Int32) (τ : tw_T) : tw_T := tw_sr (tw_sr (tw_sr (tw_sr (tw_sr (tw_sr τ 197 (upd (τ 197) (5 * (τ 190 14)).toNatClampNeg x1)) 197 (upd ((tw_sr τ 197 (upd (τ 197) (5 * (τ 190 14)).toNatClampNeg x1)) 197) ((5 * (τ 190 14)) + 1).toNatClampNeg x2)) 197 (upd ((tw_sr (tw_sr τ 197 (upd (τ 197) (5 * (τ 190 14)).toNatClampNeg x1)) 197 (upd ((tw_sr τ 197 (upd (τ 197) (5 * (τ 190 14)).toNatClampNeg x1)) 197) ((5 * (τ 190 14)) + 1).toNatClampNeg x2)) 197) ((5 * (τ 190 14)) + 2).toNatClampNeg x3)) 197 (upd ((tw_sr (tw_sr (tw_sr τ 197 (upd (τ 197) (5 * (τ 190 14)).toNatClampNeg x1)) 197 (upd ((tw_sr τ 197 (upd (τ 197) (5 * (τ 190 14)).toNatClampNeg x1)) 197) ((5 * (τ 190 14)) + 1).toNatClampNeg x2)) 197 (upd ((tw_sr (tw_sr τ 197 (upd (τ 197) (5 * (τ 190 14)).toNatClampNeg x1)) 197 (upd ((tw_sr τ 197 (upd (τ 197) (5 * (τ 190 14)).toNatClampNeg x1)) 197) ((5 * (τ 190 14)) + 1).toNatClampNeg x2)) 197) ((5 * (τ 190 14)) + 2).toNatClampNeg x3)) 197) ((5 * (τ 190 14)) + 3).toNatClampNeg x4)) 197 (upd ((tw_sr (tw_sr (tw_sr (tw_sr τ 197 (upd (τ 197) (5 * (τ 190 14)).toNatClampNeg x1)) 197 (upd ((tw_sr τ 197 (upd (τ 197) (5 * (τ 190 14)).toNatClampNeg x1)) 197) ((5 * (τ 190 14)) + 1).toNatClampNeg x2)) 197 (upd ((tw_sr (tw_sr τ 197 (upd (τ 197) (5 * (τ 190 14)).toNatClampNeg x1)) 197 (upd ((tw_sr τ 197 (upd (τ 197) (5 * (τ 190 14)).toNatClampNeg x1)) 197) ((5 * (τ 190 14)) + 1).toNatClampNeg x2)) 197) ((5 * (τ 190 14)) + 2).toNatClampNeg x3)) 197 (upd ((tw_sr (tw_sr (tw_sr τ 197 (upd (τ 197) (5 * (τ 190 14)).toNatClampNeg x1)) 197 (upd ((tw_sr τ 197 (upd (τ 197) (5 * (τ 190 14)).toNatClampNeg x1)) 197) ((5 * (τ 190 14)) + 1).toNatClampNeg x2)) 197 (upd ((tw_sr (tw_sr τ 197 (upd (τ 197) (5 * (τ 190 14)).toNatClampNeg x1)) 197 (upd ((tw_sr τ 197 (upd (τ 197) (5 * (τ 190 14)).toNatClampNeg x1)) 197) ((5 * (τ 190 14)) + 1).toNatClampNeg x2)) 197) ((5 * (τ 190 14)) + 2).toNatClampNeg x3)) 197) ((5 * (τ 190 14)) + 3).toNatClampNeg x4)) 197) ((5 * (τ 190 14)) + 4).toNatClampNeg x5)) 190 (upd ((tw_sr (tw_sr (tw_sr (tw_sr (tw_sr τ 197 (upd (τ 197) (5 * (τ 190 14)).toNatClampNeg x1)) 197 (upd ((tw_sr τ 197 (upd (τ 197) (5 * (τ 190 14)).toNatClampNeg x1)) 197) ((5 * (τ 190 14)) + 1).toNatClampNeg x2)) 197 (upd ((tw_sr (tw_sr τ 197 (upd (τ 197) (5 * (τ 190 14)).toNatClampNeg x1)) 197 (upd ((tw_sr τ 197 (upd (τ 197) (5 * (τ 190 14)).toNatClampNeg x1)) 197) ((5 * (τ 190 14)) + 1).toNatClampNeg x2)) 197) ((5 * (τ 190 14)) + 2).toNatClampNeg x3)) 197 (upd ((tw_sr (tw_sr (tw_sr τ 197 (upd (τ 197) (5 * (τ 190 14)).toNatClampNeg x1)) 197 (upd ((tw_sr τ 197 (upd (τ 197) (5 * (τ 190 14)).toNatClampNeg x1)) 197) ((5 * (τ 190 14)) + 1).toNatClampNeg x2)) 197 (upd ((tw_sr (tw_sr τ 197 (upd (τ 197) (5 * (τ 190 14)).toNatClampNeg x1)) 197 (upd ((tw_sr τ 197 (upd (τ 197) (5 * (τ 190 14)).toNatClampNeg x1)) 197) ((5 * (τ 190 14)) + 1).toNatClampNeg x2)) 197) ((5 * (τ 190 14)) + 2).toNatClampNeg x3)) 197) ((5 * (τ 190 14)) + 3).toNatClampNeg x4)) 197 (upd ((tw_sr (tw_sr (tw_sr (tw_sr τ 197 (upd (τ 197) (5 * (τ 190 14)).toNatClampNeg x1)) 197 (upd ((tw_sr τ 197 (upd (τ 197) (5 * (τ 190 14)).toNatClampNeg x1)) 197) ((5 * (τ 190 14)) + 1).toNatClampNeg x2)) 197 (upd ((tw_sr (tw_sr τ 197 (upd (τ 197) (5 * (τ 190 14)).toNatClampNeg x1)) 197 (upd ((tw_sr τ 197 (upd (τ 197) (5 * (τ 190 14)).toNatClampNeg x1)) 197) ((5 * (τ 190 14)) + 1).toNatClampNeg x2)) 197) ((5 * (τ 190 14)) + 2).toNatClampNeg x3)) 197 (upd ((tw_sr (tw_sr (tw_sr τ 197 (upd (τ 197) (5 * (τ 190 14)).toNatClampNeg x1)) 197 (upd ((tw_sr τ 197 (upd (τ 197) (5 * (τ 190 14)).toNatClampNeg x1)) 197) ((5 * (τ 190 14)) + 1).toNatClampNeg x2)) 197 (upd ((tw_sr (tw_sr τ 197 (upd (τ 197) (5 * (τ 190 14)).toNatClampNeg x1)) 197 (upd ((tw_sr τ 197 (upd (τ 197) (5 * (τ 190 14)).toNatClampNeg x1)) 197) ((5 * (τ 190 14)) + 1).toNatClampNeg x2)) 197) ((5 * (τ 190 14)) + 2).toNatClampNeg x3)) 197) ((5 * (τ 190 14)) + 3).toNatClampNeg x4)) 197) ((5 * (τ 190 14)) + 4).toNatClampNeg x5)) 190) 14 (((tw_sr (tw_sr (tw_sr (tw_sr (tw_sr τ 197 (upd (τ 197) (5 * (τ 190 14)).toNatClampNeg x1)) 197 (upd ((tw_sr τ 197 (upd (τ 197) (5 * (τ 190 14)).toNatClampNeg x1)) 197) ((5 * (τ 190 14)) + 1).toNatClampNeg x2)) 197 (upd ((tw_sr (tw_sr τ 197 (upd (τ 197) (5 * (τ 190 14)).toNatClampNeg x1)) 197 (upd ((tw_sr τ 197 (upd (τ 197) (5 * (τ 190 14)).toNatClampNeg x1)) 197) ((5 * (τ 190 14)) + 1).toNatClampNeg x2)) 197) ((5 * (τ 190 14)) + 2).toNatClampNeg x3)) 197 (upd ((tw_sr (tw_sr (tw_sr τ 197 (upd (τ 197) (5 * (τ 190 14)).toNatClampNeg x1)) 197 (upd ((tw_sr τ 197 (upd (τ 197) (5 * (τ 190 14)).toNatClampNeg x1)) 197) ((5 * (τ 190 14)) + 1).toNatClampNeg x2)) 197 (upd ((tw_sr (tw_sr τ 197 (upd (τ 197) (5 * (τ 190 14)).toNatClampNeg x1)) 197 (upd ((tw_sr τ 197 (upd (τ 197) (5 * (τ 190 14)).toNatClampNeg x1)) 197) ((5 * (τ 190 14)) + 1).toNatClampNeg x2)) 197) ((5 * (τ 190 14)) + 2).toNatClampNeg x3)) 197) ((5 * (τ 190 14)) + 3).toNatClampNeg x4)) 197 (upd ((tw_sr (tw_sr (tw_sr (tw_sr τ 197 (upd (τ 197) (5 * (τ 190 14)).toNatClampNeg x1)) 197 (upd ((tw_sr τ 197 (upd (τ 197) (5 * (τ 190 14)).toNatClampNeg x1)) 197) ((5 * (τ 190 14)) + 1).toNatClampNeg x2)) 197 (upd ((tw_sr (tw_sr τ 197 (upd (τ 197) (5 * (τ 190 14)).toNatClampNeg x1)) 197 (upd ((tw_sr τ 197 (upd (τ 197) (5 * (τ 190 14)).toNatClampNeg x1)) 197) ((5 * (τ 190 14)) + 1).toNatClampNeg x2)) 197) ((5 * (τ 190 14)) + 2).toNatClampNeg x3)) 197 (upd ((tw_sr (tw_sr (tw_sr τ 197 (upd (τ 197) (5 * (τ 190 14)).toNatClampNeg x1)) 197 (upd ((tw_sr τ 197 (upd (τ 197) (5 * (τ 190 14)).toNatClampNeg x1)) 197) ((5 * (τ 190 14)) + 1).toNatClampNeg x2)) 197 (upd ((tw_sr (tw_sr τ 197 (upd (τ 197) (5 * (τ 190 14)).toNatClampNeg x1)) 197 (upd ((tw_sr τ 197 (upd (τ 197) (5 * (τ 190 14)).toNatClampNeg x1)) 197) ((5 * (τ 190 14)) + 1).toNatClampNeg x2)) 197) ((5 * (τ 190 14)) + 2).toNatClampNeg x3)) 197) ((5 * (τ 190 14)) + 3).toNatClampNeg x4)) 197) ((5 * (τ 190 14)) + 4).toNatClampNeg x5)) 190 14) + 1))
def p_X9_addItem  (x1 : Int32) (x2 : Int32) (x3 : Int32) (x4 : Int32) (x5 : Int32) (τ : tw_T) : Prop := vp_in (5 * (τ 190 14)) 600 ∧ (vp_in ((5 * (τ 190 14)) + 1) 600 ∧ (vp_in ((5 * (τ 190 14)) + 2) 600 ∧ (vp_in ((5 * (τ 190 14)) + 3) 600 ∧ (vp_in ((5 * (τ 190 14)) + 4) 600 ∧ True))))
theorem ct_X9_addItem {E : tw_E}   {x1 : Int32} {x2 : Int32} {x3 : Int32} {x4 : Int32} {x5 : Int32} {τ : tw_T} (hp : p_X9_addItem x1 x2 x3 x4 x5 τ)  : tw_Cv E 1 mX9_addItem [.ref 190, .int x1, .int x2, .int x3, .int x4, .int x5] τ (g_X9_addItem x1 x2 x3 x4 x5 τ) := by
  unfold p_X9_addItem at hp
  refine ct_of (by decide) (by simp [Value.category]) (Nat.le_of_ble_eq_true rfl) (fun K hE F => ?_)
  subst hE
  refine rw_iconst (v := 5) F dc_X9_addItem_0 rfl ?_
  refine rw_aload_n F dc_X9_addItem_1 rfl ?_
  refine rw_getI F dc_X9_addItem_2 fl_RX9_248 (by first | rfl | assumption | decide | exact r73_k (by assumption) | exact fb_k (by assumption) | exact sb_k (by assumption) | exact tb_k (by assumption) | exact sb_li (by assumption) | exact sb_s (by assumption) | exact tb_n (by assumption) | exact fb_k (sb_f (by assumption))) (by first | rfl | assumption | exact lk6 (by assumption) _ | exact lk2 (by assumption) _ | exact fb_l0 (by assumption) | exact fb_l1 (by assumption) | exact sb_l0 (by assumption) | exact sb_l1 (by assumption) | exact sb_l2 (by assumption) | exact sb_l3 (by assumption) | exact tb_l0 (by assumption) | exact tb_l1 (by assumption) | exact tb_l2 (by assumption) | exact lk2 (sb_li (by assumption)) _ | exact fb_l0 (sb_f (by assumption)) | exact fb_l1 (sb_f (by assumption))) ?_
  refine rw_imul F dc_X9_addItem_5 ?_
  refine rw_istore F dc_X9_addItem_6 (by decide) rfl ?_
  refine rw_aload_n F dc_X9_addItem_8 rfl ?_
  refine rw_getR F dc_X9_addItem_9 fl_RX9_45 (by first | rfl | assumption | decide | exact r73_k (by assumption) | exact fb_k (by assumption) | exact sb_k (by assumption) | exact tb_k (by assumption) | exact sb_li (by assumption) | exact sb_s (by assumption) | exact tb_n (by assumption) | exact fb_k (sb_f (by assumption))) (by first | rfl | assumption | exact lk6 (by assumption) _ | exact lk2 (by assumption) _ | exact fb_l0 (by assumption) | exact fb_l1 (by assumption) | exact sb_l0 (by assumption) | exact sb_l1 (by assumption) | exact sb_l2 (by assumption) | exact sb_l3 (by assumption) | exact tb_l0 (by assumption) | exact tb_l1 (by assumption) | exact tb_l2 (by assumption) | exact lk2 (sb_li (by assumption)) _ | exact fb_l0 (sb_f (by assumption)) | exact fb_l1 (sb_f (by assumption))) ?_
  refine rw_iload F dc_X9_addItem_12 rfl ?_
  refine rw_iload_n F dc_X9_addItem_14 rfl ?_
  obtain ⟨hs1, hp⟩ := hp
  refine rw_isC F dc_X9_addItem_15 (by first | rfl | assumption | decide | exact r73_k (by assumption) | exact fb_k (by assumption) | exact sb_k (by assumption) | exact tb_k (by assumption) | exact sb_li (by assumption) | exact sb_s (by assumption) | exact tb_n (by assumption) | exact fb_k (sb_f (by assumption))) (by first | rfl | exact r73_n (by assumption) | exact sb_sn (by assumption) | exact tb_nn (by assumption)) hs1 ?_
  refine rw_aload_n F dc_X9_addItem_16 rfl ?_
  refine rw_getR F dc_X9_addItem_17 fl_RX9_45 (by first | rfl | assumption | decide | exact r73_k (by assumption) | exact fb_k (by assumption) | exact sb_k (by assumption) | exact tb_k (by assumption) | exact sb_li (by assumption) | exact sb_s (by assumption) | exact tb_n (by assumption) | exact fb_k (sb_f (by assumption))) (by first | rfl | assumption | exact lk6 (by assumption) _ | exact lk2 (by assumption) _ | exact fb_l0 (by assumption) | exact fb_l1 (by assumption) | exact sb_l0 (by assumption) | exact sb_l1 (by assumption) | exact sb_l2 (by assumption) | exact sb_l3 (by assumption) | exact tb_l0 (by assumption) | exact tb_l1 (by assumption) | exact tb_l2 (by assumption) | exact lk2 (sb_li (by assumption)) _ | exact fb_l0 (sb_f (by assumption)) | exact fb_l1 (sb_f (by assumption))) ?_
  refine rw_iload F dc_X9_addItem_20 rfl ?_
  refine rw_iconst (v := 1) F dc_X9_addItem_22 rfl ?_
  refine rw_iadd F dc_X9_addItem_23 ?_
  refine rw_iload_n F dc_X9_addItem_24 rfl ?_
  obtain ⟨hs2, hp⟩ := hp
  refine rw_isC F dc_X9_addItem_25 (by first | rfl | assumption | decide | exact r73_k (by assumption) | exact fb_k (by assumption) | exact sb_k (by assumption) | exact tb_k (by assumption) | exact sb_li (by assumption) | exact sb_s (by assumption) | exact tb_n (by assumption) | exact fb_k (sb_f (by assumption))) (by first | rfl | exact r73_n (by assumption) | exact sb_sn (by assumption) | exact tb_nn (by assumption)) hs2 ?_
  refine rw_aload_n F dc_X9_addItem_26 rfl ?_
  refine rw_getR F dc_X9_addItem_27 fl_RX9_45 (by first | rfl | assumption | decide | exact r73_k (by assumption) | exact fb_k (by assumption) | exact sb_k (by assumption) | exact tb_k (by assumption) | exact sb_li (by assumption) | exact sb_s (by assumption) | exact tb_n (by assumption) | exact fb_k (sb_f (by assumption))) (by first | rfl | assumption | exact lk6 (by assumption) _ | exact lk2 (by assumption) _ | exact fb_l0 (by assumption) | exact fb_l1 (by assumption) | exact sb_l0 (by assumption) | exact sb_l1 (by assumption) | exact sb_l2 (by assumption) | exact sb_l3 (by assumption) | exact tb_l0 (by assumption) | exact tb_l1 (by assumption) | exact tb_l2 (by assumption) | exact lk2 (sb_li (by assumption)) _ | exact fb_l0 (sb_f (by assumption)) | exact fb_l1 (sb_f (by assumption))) ?_
  refine rw_iload F dc_X9_addItem_30 rfl ?_
  refine rw_iconst (v := 2) F dc_X9_addItem_32 rfl ?_
  refine rw_iadd F dc_X9_addItem_33 ?_
  refine rw_iload_n F dc_X9_addItem_34 rfl ?_
  obtain ⟨hs3, hp⟩ := hp
  refine rw_isC F dc_X9_addItem_35 (by first | rfl | assumption | decide | exact r73_k (by assumption) | exact fb_k (by assumption) | exact sb_k (by assumption) | exact tb_k (by assumption) | exact sb_li (by assumption) | exact sb_s (by assumption) | exact tb_n (by assumption) | exact fb_k (sb_f (by assumption))) (by first | rfl | exact r73_n (by assumption) | exact sb_sn (by assumption) | exact tb_nn (by assumption)) hs3 ?_
  refine rw_aload_n F dc_X9_addItem_36 rfl ?_
  refine rw_getR F dc_X9_addItem_37 fl_RX9_45 (by first | rfl | assumption | decide | exact r73_k (by assumption) | exact fb_k (by assumption) | exact sb_k (by assumption) | exact tb_k (by assumption) | exact sb_li (by assumption) | exact sb_s (by assumption) | exact tb_n (by assumption) | exact fb_k (sb_f (by assumption))) (by first | rfl | assumption | exact lk6 (by assumption) _ | exact lk2 (by assumption) _ | exact fb_l0 (by assumption) | exact fb_l1 (by assumption) | exact sb_l0 (by assumption) | exact sb_l1 (by assumption) | exact sb_l2 (by assumption) | exact sb_l3 (by assumption) | exact tb_l0 (by assumption) | exact tb_l1 (by assumption) | exact tb_l2 (by assumption) | exact lk2 (sb_li (by assumption)) _ | exact fb_l0 (sb_f (by assumption)) | exact fb_l1 (sb_f (by assumption))) ?_
  refine rw_iload F dc_X9_addItem_40 rfl ?_
  refine rw_iconst (v := 3) F dc_X9_addItem_42 rfl ?_
  refine rw_iadd F dc_X9_addItem_43 ?_
  refine rw_iload F dc_X9_addItem_44 rfl ?_
  obtain ⟨hs4, hp⟩ := hp
  refine rw_isC F dc_X9_addItem_46 (by first | rfl | assumption | decide | exact r73_k (by assumption) | exact fb_k (by assumption) | exact sb_k (by assumption) | exact tb_k (by assumption) | exact sb_li (by assumption) | exact sb_s (by assumption) | exact tb_n (by assumption) | exact fb_k (sb_f (by assumption))) (by first | rfl | exact r73_n (by assumption) | exact sb_sn (by assumption) | exact tb_nn (by assumption)) hs4 ?_
  refine rw_aload_n F dc_X9_addItem_47 rfl ?_
  refine rw_getR F dc_X9_addItem_48 fl_RX9_45 (by first | rfl | assumption | decide | exact r73_k (by assumption) | exact fb_k (by assumption) | exact sb_k (by assumption) | exact tb_k (by assumption) | exact sb_li (by assumption) | exact sb_s (by assumption) | exact tb_n (by assumption) | exact fb_k (sb_f (by assumption))) (by first | rfl | assumption | exact lk6 (by assumption) _ | exact lk2 (by assumption) _ | exact fb_l0 (by assumption) | exact fb_l1 (by assumption) | exact sb_l0 (by assumption) | exact sb_l1 (by assumption) | exact sb_l2 (by assumption) | exact sb_l3 (by assumption) | exact tb_l0 (by assumption) | exact tb_l1 (by assumption) | exact tb_l2 (by assumption) | exact lk2 (sb_li (by assumption)) _ | exact fb_l0 (sb_f (by assumption)) | exact fb_l1 (sb_f (by assumption))) ?_
  refine rw_iload F dc_X9_addItem_51 rfl ?_
  refine rw_iconst (v := 4) F dc_X9_addItem_53 rfl ?_
  refine rw_iadd F dc_X9_addItem_54 ?_
  refine rw_iload F dc_X9_addItem_55 rfl ?_
  obtain ⟨hs5, hp⟩ := hp
  refine rw_isC F dc_X9_addItem_57 (by first | rfl | assumption | decide | exact r73_k (by assumption) | exact fb_k (by assumption) | exact sb_k (by assumption) | exact tb_k (by assumption) | exact sb_li (by assumption) | exact sb_s (by assumption) | exact tb_n (by assumption) | exact fb_k (sb_f (by assumption))) (by first | rfl | exact r73_n (by assumption) | exact sb_sn (by assumption) | exact tb_nn (by assumption)) hs5 ?_
  refine rw_aload_n F dc_X9_addItem_58 rfl ?_
  refine rw_dup F dc_X9_addItem_59 rfl ?_
  refine rw_getI F dc_X9_addItem_60 fl_RX9_248 (by first | rfl | assumption | decide | exact r73_k (by assumption) | exact fb_k (by assumption) | exact sb_k (by assumption) | exact tb_k (by assumption) | exact sb_li (by assumption) | exact sb_s (by assumption) | exact tb_n (by assumption) | exact fb_k (sb_f (by assumption))) (by first | rfl | assumption | exact lk6 (by assumption) _ | exact lk2 (by assumption) _ | exact fb_l0 (by assumption) | exact fb_l1 (by assumption) | exact sb_l0 (by assumption) | exact sb_l1 (by assumption) | exact sb_l2 (by assumption) | exact sb_l3 (by assumption) | exact tb_l0 (by assumption) | exact tb_l1 (by assumption) | exact tb_l2 (by assumption) | exact lk2 (sb_li (by assumption)) _ | exact fb_l0 (sb_f (by assumption)) | exact fb_l1 (sb_f (by assumption))) ?_
  refine rw_iconst (v := 1) F dc_X9_addItem_63 rfl ?_
  refine rw_iadd F dc_X9_addItem_64 ?_
  refine rw_put F dc_X9_addItem_65 pf_RX9_248 (by first | rfl | assumption | decide | exact r73_k (by assumption) | exact fb_k (by assumption) | exact sb_k (by assumption) | exact tb_k (by assumption) | exact sb_li (by assumption) | exact sb_s (by assumption) | exact tb_n (by assumption) | exact fb_k (sb_f (by assumption))) (by first | rfl | assumption | exact lk6 (by assumption) _ | exact lk2 (by assumption) _ | exact fb_l0 (by assumption) | exact fb_l1 (by assumption) | exact sb_l0 (by assumption) | exact sb_l1 (by assumption) | exact sb_l2 (by assumption) | exact sb_l3 (by assumption) | exact tb_l0 (by assumption) | exact tb_l1 (by assumption) | exact tb_l2 (by assumption) | exact lk2 (sb_li (by assumption)) _ | exact fb_l0 (sb_f (by assumption)) | exact fb_l1 (sb_f (by assumption))) rfl rfl ?_
  refine rw_vret F dc_X9_addItem_68 rfl ?_
  first | exact ⟨rfl, by first | (simp only [g_X9_addItem]; done) | rfl | (simp only [g_X9_addItem]; rfl)⟩ | contradiction
def g_X9_isToldSo (N : Nat)  (x1 : Int32) (τ : tw_T) : tw_T := if (τ 197 x1.toNatClampNeg) = (10 : Int32) then (tw_sr τ 191 (upd (τ 191) 3 (τ 197 (x1 + 1).toNatClampNeg))) else (if (τ 197 x1.toNatClampNeg) = (11 : Int32) then (tw_sr τ 191 (upd (τ 191) 4 (τ 197 (x1 + 1).toNatClampNeg))) else (if (τ 197 x1.toNatClampNeg) = (12 : Int32) then (tw_sr τ 191 (upd (τ 191) 5 (τ 197 (x1 + 1).toNatClampNeg))) else (tw_sr (tw_sr (tw_sr (g_X9_comes N (τ 197 x1.toNatClampNeg) (τ 197 (x1 + 1).toNatClampNeg) τ) 191 (upd ((g_X9_comes N (τ 197 x1.toNatClampNeg) (τ 197 (x1 + 1).toNatClampNeg) τ) 191) (f_X9_shipAt (f_X9_comes N (τ 197 x1.toNatClampNeg) (τ 197 (x1 + 1).toNatClampNeg) τ) 2 (g_X9_comes N (τ 197 x1.toNatClampNeg) (τ 197 (x1 + 1).toNatClampNeg) τ)).toNatClampNeg ((g_X9_comes N (τ 197 x1.toNatClampNeg) (τ 197 (x1 + 1).toNatClampNeg) τ) 197 (x1 + 2).toNatClampNeg))) 191 (upd ((tw_sr (g_X9_comes N (τ 197 x1.toNatClampNeg) (τ 197 (x1 + 1).toNatClampNeg) τ) 191 (upd ((g_X9_comes N (τ 197 x1.toNatClampNeg) (τ 197 (x1 + 1).toNatClampNeg) τ) 191) (f_X9_shipAt (f_X9_comes N (τ 197 x1.toNatClampNeg) (τ 197 (x1 + 1).toNatClampNeg) τ) 2 (g_X9_comes N (τ 197 x1.toNatClampNeg) (τ 197 (x1 + 1).toNatClampNeg) τ)).toNatClampNeg ((g_X9_comes N (τ 197 x1.toNatClampNeg) (τ 197 (x1 + 1).toNatClampNeg) τ) 197 (x1 + 2).toNatClampNeg))) 191) (f_X9_shipAt (f_X9_comes N (τ 197 x1.toNatClampNeg) (τ 197 (x1 + 1).toNatClampNeg) τ) 3 (tw_sr (g_X9_comes N (τ 197 x1.toNatClampNeg) (τ 197 (x1 + 1).toNatClampNeg) τ) 191 (upd ((g_X9_comes N (τ 197 x1.toNatClampNeg) (τ 197 (x1 + 1).toNatClampNeg) τ) 191) (f_X9_shipAt (f_X9_comes N (τ 197 x1.toNatClampNeg) (τ 197 (x1 + 1).toNatClampNeg) τ) 2 (g_X9_comes N (τ 197 x1.toNatClampNeg) (τ 197 (x1 + 1).toNatClampNeg) τ)).toNatClampNeg ((g_X9_comes N (τ 197 x1.toNatClampNeg) (τ 197 (x1 + 1).toNatClampNeg) τ) 197 (x1 + 2).toNatClampNeg)))).toNatClampNeg ((tw_sr (g_X9_comes N (τ 197 x1.toNatClampNeg) (τ 197 (x1 + 1).toNatClampNeg) τ) 191 (upd ((g_X9_comes N (τ 197 x1.toNatClampNeg) (τ 197 (x1 + 1).toNatClampNeg) τ) 191) (f_X9_shipAt (f_X9_comes N (τ 197 x1.toNatClampNeg) (τ 197 (x1 + 1).toNatClampNeg) τ) 2 (g_X9_comes N (τ 197 x1.toNatClampNeg) (τ 197 (x1 + 1).toNatClampNeg) τ)).toNatClampNeg ((g_X9_comes N (τ 197 x1.toNatClampNeg) (τ 197 (x1 + 1).toNatClampNeg) τ) 197 (x1 + 2).toNatClampNeg))) 197 (x1 + 3).toNatClampNeg))) 191 (upd ((tw_sr (tw_sr (g_X9_comes N (τ 197 x1.toNatClampNeg) (τ 197 (x1 + 1).toNatClampNeg) τ) 191 (upd ((g_X9_comes N (τ 197 x1.toNatClampNeg) (τ 197 (x1 + 1).toNatClampNeg) τ) 191) (f_X9_shipAt (f_X9_comes N (τ 197 x1.toNatClampNeg) (τ 197 (x1 + 1).toNatClampNeg) τ) 2 (g_X9_comes N (τ 197 x1.toNatClampNeg) (τ 197 (x1 + 1).toNatClampNeg) τ)).toNatClampNeg ((g_X9_comes N (τ 197 x1.toNatClampNeg) (τ 197 (x1 + 1).toNatClampNeg) τ) 197 (x1 + 2).toNatClampNeg))) 191 (upd ((tw_sr (g_X9_comes N (τ 197 x1.toNatClampNeg) (τ 197 (x1 + 1).toNatClampNeg) τ) 191 (upd ((g_X9_comes N (τ 197 x1.toNatClampNeg) (τ 197 (x1 + 1).toNatClampNeg) τ) 191) (f_X9_shipAt (f_X9_comes N (τ 197 x1.toNatClampNeg) (τ 197 (x1 + 1).toNatClampNeg) τ) 2 (g_X9_comes N (τ 197 x1.toNatClampNeg) (τ 197 (x1 + 1).toNatClampNeg) τ)).toNatClampNeg ((g_X9_comes N (τ 197 x1.toNatClampNeg) (τ 197 (x1 + 1).toNatClampNeg) τ) 197 (x1 + 2).toNatClampNeg))) 191) (f_X9_shipAt (f_X9_comes N (τ 197 x1.toNatClampNeg) (τ 197 (x1 + 1).toNatClampNeg) τ) 3 (tw_sr (g_X9_comes N (τ 197 x1.toNatClampNeg) (τ 197 (x1 + 1).toNatClampNeg) τ) 191 (upd ((g_X9_comes N (τ 197 x1.toNatClampNeg) (τ 197 (x1 + 1).toNatClampNeg) τ) 191) (f_X9_shipAt (f_X9_comes N (τ 197 x1.toNatClampNeg) (τ 197 (x1 + 1).toNatClampNeg) τ) 2 (g_X9_comes N (τ 197 x1.toNatClampNeg) (τ 197 (x1 + 1).toNatClampNeg) τ)).toNatClampNeg ((g_X9_comes N (τ 197 x1.toNatClampNeg) (τ 197 (x1 + 1).toNatClampNeg) τ) 197 (x1 + 2).toNatClampNeg)))).toNatClampNeg ((tw_sr (g_X9_comes N (τ 197 x1.toNatClampNeg) (τ 197 (x1 + 1).toNatClampNeg) τ) 191 (upd ((g_X9_comes N (τ 197 x1.toNatClampNeg) (τ 197 (x1 + 1).toNatClampNeg) τ) 191) (f_X9_shipAt (f_X9_comes N (τ 197 x1.toNatClampNeg) (τ 197 (x1 + 1).toNatClampNeg) τ) 2 (g_X9_comes N (τ 197 x1.toNatClampNeg) (τ 197 (x1 + 1).toNatClampNeg) τ)).toNatClampNeg ((g_X9_comes N (τ 197 x1.toNatClampNeg) (τ 197 (x1 + 1).toNatClampNeg) τ) 197 (x1 + 2).toNatClampNeg))) 197 (x1 + 3).toNatClampNeg))) 191) (f_X9_shipAt (f_X9_comes N (τ 197 x1.toNatClampNeg) (τ 197 (x1 + 1).toNatClampNeg) τ) 4 (tw_sr (tw_sr (g_X9_comes N (τ 197 x1.toNatClampNeg) (τ 197 (x1 + 1).toNatClampNeg) τ) 191 (upd ((g_X9_comes N (τ 197 x1.toNatClampNeg) (τ 197 (x1 + 1).toNatClampNeg) τ) 191) (f_X9_shipAt (f_X9_comes N (τ 197 x1.toNatClampNeg) (τ 197 (x1 + 1).toNatClampNeg) τ) 2 (g_X9_comes N (τ 197 x1.toNatClampNeg) (τ 197 (x1 + 1).toNatClampNeg) τ)).toNatClampNeg ((g_X9_comes N (τ 197 x1.toNatClampNeg) (τ 197 (x1 + 1).toNatClampNeg) τ) 197 (x1 + 2).toNatClampNeg))) 191 (upd ((tw_sr (g_X9_comes N (τ 197 x1.toNatClampNeg) (τ 197 (x1 + 1).toNatClampNeg) τ) 191 (upd ((g_X9_comes N (τ 197 x1.toNatClampNeg) (τ 197 (x1 + 1).toNatClampNeg) τ) 191) (f_X9_shipAt (f_X9_comes N (τ 197 x1.toNatClampNeg) (τ 197 (x1 + 1).toNatClampNeg) τ) 2 (g_X9_comes N (τ 197 x1.toNatClampNeg) (τ 197 (x1 + 1).toNatClampNeg) τ)).toNatClampNeg ((g_X9_comes N (τ 197 x1.toNatClampNeg) (τ 197 (x1 + 1).toNatClampNeg) τ) 197 (x1 + 2).toNatClampNeg))) 191) (f_X9_shipAt (f_X9_comes N (τ 197 x1.toNatClampNeg) (τ 197 (x1 + 1).toNatClampNeg) τ) 3 (tw_sr (g_X9_comes N (τ 197 x1.toNatClampNeg) (τ 197 (x1 + 1).toNatClampNeg) τ) 191 (upd ((g_X9_comes N (τ 197 x1.toNatClampNeg) (τ 197 (x1 + 1).toNatClampNeg) τ) 191) (f_X9_shipAt (f_X9_comes N (τ 197 x1.toNatClampNeg) (τ 197 (x1 + 1).toNatClampNeg) τ) 2 (g_X9_comes N (τ 197 x1.toNatClampNeg) (τ 197 (x1 + 1).toNatClampNeg) τ)).toNatClampNeg ((g_X9_comes N (τ 197 x1.toNatClampNeg) (τ 197 (x1 + 1).toNatClampNeg) τ) 197 (x1 + 2).toNatClampNeg)))).toNatClampNeg ((tw_sr (g_X9_comes N (τ 197 x1.toNatClampNeg) (τ 197 (x1 + 1).toNatClampNeg) τ) 191 (upd ((g_X9_comes N (τ 197 x1.toNatClampNeg) (τ 197 (x1 + 1).toNatClampNeg) τ) 191) (f_X9_shipAt (f_X9_comes N (τ 197 x1.toNatClampNeg) (τ 197 (x1 + 1).toNatClampNeg) τ) 2 (g_X9_comes N (τ 197 x1.toNatClampNeg) (τ 197 (x1 + 1).toNatClampNeg) τ)).toNatClampNeg ((g_X9_comes N (τ 197 x1.toNatClampNeg) (τ 197 (x1 + 1).toNatClampNeg) τ) 197 (x1 + 2).toNatClampNeg))) 197 (x1 + 3).toNatClampNeg)))).toNatClampNeg ((tw_sr (tw_sr (g_X9_comes N (τ 197 x1.toNatClampNeg) (τ 197 (x1 + 1).toNatClampNeg) τ) 191 (upd ((g_X9_comes N (τ 197 x1.toNatClampNeg) (τ 197 (x1 + 1).toNatClampNeg) τ) 191) (f_X9_shipAt (f_X9_comes N (τ 197 x1.toNatClampNeg) (τ 197 (x1 + 1).toNatClampNeg) τ) 2 (g_X9_comes N (τ 197 x1.toNatClampNeg) (τ 197 (x1 + 1).toNatClampNeg) τ)).toNatClampNeg ((g_X9_comes N (τ 197 x1.toNatClampNeg) (τ 197 (x1 + 1).toNatClampNeg) τ) 197 (x1 + 2).toNatClampNeg))) 191 (upd ((tw_sr (g_X9_comes N (τ 197 x1.toNatClampNeg) (τ 197 (x1 + 1).toNatClampNeg) τ) 191 (upd ((g_X9_comes N (τ 197 x1.toNatClampNeg) (τ 197 (x1 + 1).toNatClampNeg) τ) 191) (f_X9_shipAt (f_X9_comes N (τ 197 x1.toNatClampNeg) (τ 197 (x1 + 1).toNatClampNeg) τ) 2 (g_X9_comes N (τ 197 x1.toNatClampNeg) (τ 197 (x1 + 1).toNatClampNeg) τ)).toNatClampNeg ((g_X9_comes N (τ 197 x1.toNatClampNeg) (τ 197 (x1 + 1).toNatClampNeg) τ) 197 (x1 + 2).toNatClampNeg))) 191) (f_X9_shipAt (f_X9_comes N (τ 197 x1.toNatClampNeg) (τ 197 (x1 + 1).toNatClampNeg) τ) 3 (tw_sr (g_X9_comes N (τ 197 x1.toNatClampNeg) (τ 197 (x1 + 1).toNatClampNeg) τ) 191 (upd ((g_X9_comes N (τ 197 x1.toNatClampNeg) (τ 197 (x1 + 1).toNatClampNeg) τ) 191) (f_X9_shipAt (f_X9_comes N (τ 197 x1.toNatClampNeg) (τ 197 (x1 + 1).toNatClampNeg) τ) 2 (g_X9_comes N (τ 197 x1.toNatClampNeg) (τ 197 (x1 + 1).toNatClampNeg) τ)).toNatClampNeg ((g_X9_comes N (τ 197 x1.toNatClampNeg) (τ 197 (x1 + 1).toNatClampNeg) τ) 197 (x1 + 2).toNatClampNeg)))).toNatClampNeg ((tw_sr (g_X9_comes N (τ 197 x1.toNatClampNeg) (τ 197 (x1 + 1).toNatClampNeg) τ) 191 (upd ((g_X9_comes N (τ 197 x1.toNatClampNeg) (τ 197 (x1 + 1).toNatClampNeg) τ) 191) (f_X9_shipAt (f_X9_comes N (τ 197 x1.toNatClampNeg) (τ 197 (x1 + 1).toNatClampNeg) τ) 2 (g_X9_comes N (τ 197 x1.toNatClampNeg) (τ 197 (x1 + 1).toNatClampNeg) τ)).toNatClampNeg ((g_X9_comes N (τ 197 x1.toNatClampNeg) (τ 197 (x1 + 1).toNatClampNeg) τ) 197 (x1 + 2).toNatClampNeg))) 197 (x1 + 3).toNatClampNeg))) 197 (x1 + 4).toNatClampNeg)))))
def p_X9_isToldSo (N : Nat)  (x1 : Int32) (τ : tw_T) : Prop := vp_in (x1 + 1) 600 ∧ (vp_in x1 600 ∧ (if (τ 197 x1.toNatClampNeg) = (10 : Int32) then True else (if (τ 197 x1.toNatClampNeg) = (11 : Int32) then True else (if (τ 197 x1.toNatClampNeg) = (12 : Int32) then True else (vp_in x1 600 ∧ (p_X9_comes N (τ 197 x1.toNatClampNeg) (τ 197 (x1 + 1).toNatClampNeg) τ ∧ (vp_in (x1 + 2) 600 ∧ (vp_in (f_X9_shipAt (f_X9_comes N (τ 197 x1.toNatClampNeg) (τ 197 (x1 + 1).toNatClampNeg) τ) 2 (g_X9_comes N (τ 197 x1.toNatClampNeg) (τ 197 (x1 + 1).toNatClampNeg) τ)) 73 ∧ (vp_in (x1 + 3) 600 ∧ (vp_in (f_X9_shipAt (f_X9_comes N (τ 197 x1.toNatClampNeg) (τ 197 (x1 + 1).toNatClampNeg) τ) 3 (tw_sr (g_X9_comes N (τ 197 x1.toNatClampNeg) (τ 197 (x1 + 1).toNatClampNeg) τ) 191 (upd ((g_X9_comes N (τ 197 x1.toNatClampNeg) (τ 197 (x1 + 1).toNatClampNeg) τ) 191) (f_X9_shipAt (f_X9_comes N (τ 197 x1.toNatClampNeg) (τ 197 (x1 + 1).toNatClampNeg) τ) 2 (g_X9_comes N (τ 197 x1.toNatClampNeg) (τ 197 (x1 + 1).toNatClampNeg) τ)).toNatClampNeg ((g_X9_comes N (τ 197 x1.toNatClampNeg) (τ 197 (x1 + 1).toNatClampNeg) τ) 197 (x1 + 2).toNatClampNeg)))) 73 ∧ (vp_in (x1 + 4) 600 ∧ (vp_in (f_X9_shipAt (f_X9_comes N (τ 197 x1.toNatClampNeg) (τ 197 (x1 + 1).toNatClampNeg) τ) 4 (tw_sr (tw_sr (g_X9_comes N (τ 197 x1.toNatClampNeg) (τ 197 (x1 + 1).toNatClampNeg) τ) 191 (upd ((g_X9_comes N (τ 197 x1.toNatClampNeg) (τ 197 (x1 + 1).toNatClampNeg) τ) 191) (f_X9_shipAt (f_X9_comes N (τ 197 x1.toNatClampNeg) (τ 197 (x1 + 1).toNatClampNeg) τ) 2 (g_X9_comes N (τ 197 x1.toNatClampNeg) (τ 197 (x1 + 1).toNatClampNeg) τ)).toNatClampNeg ((g_X9_comes N (τ 197 x1.toNatClampNeg) (τ 197 (x1 + 1).toNatClampNeg) τ) 197 (x1 + 2).toNatClampNeg))) 191 (upd ((tw_sr (g_X9_comes N (τ 197 x1.toNatClampNeg) (τ 197 (x1 + 1).toNatClampNeg) τ) 191 (upd ((g_X9_comes N (τ 197 x1.toNatClampNeg) (τ 197 (x1 + 1).toNatClampNeg) τ) 191) (f_X9_shipAt (f_X9_comes N (τ 197 x1.toNatClampNeg) (τ 197 (x1 + 1).toNatClampNeg) τ) 2 (g_X9_comes N (τ 197 x1.toNatClampNeg) (τ 197 (x1 + 1).toNatClampNeg) τ)).toNatClampNeg ((g_X9_comes N (τ 197 x1.toNatClampNeg) (τ 197 (x1 + 1).toNatClampNeg) τ) 197 (x1 + 2).toNatClampNeg))) 191) (f_X9_shipAt (f_X9_comes N (τ 197 x1.toNatClampNeg) (τ 197 (x1 + 1).toNatClampNeg) τ) 3 (tw_sr (g_X9_comes N (τ 197 x1.toNatClampNeg) (τ 197 (x1 + 1).toNatClampNeg) τ) 191 (upd ((g_X9_comes N (τ 197 x1.toNatClampNeg) (τ 197 (x1 + 1).toNatClampNeg) τ) 191) (f_X9_shipAt (f_X9_comes N (τ 197 x1.toNatClampNeg) (τ 197 (x1 + 1).toNatClampNeg) τ) 2 (g_X9_comes N (τ 197 x1.toNatClampNeg) (τ 197 (x1 + 1).toNatClampNeg) τ)).toNatClampNeg ((g_X9_comes N (τ 197 x1.toNatClampNeg) (τ 197 (x1 + 1).toNatClampNeg) τ) 197 (x1 + 2).toNatClampNeg)))).toNatClampNeg ((tw_sr (g_X9_comes N (τ 197 x1.toNatClampNeg) (τ 197 (x1 + 1).toNatClampNeg) τ) 191 (upd ((g_X9_comes N (τ 197 x1.toNatClampNeg) (τ 197 (x1 + 1).toNatClampNeg) τ) 191) (f_X9_shipAt (f_X9_comes N (τ 197 x1.toNatClampNeg) (τ 197 (x1 + 1).toNatClampNeg) τ) 2 (g_X9_comes N (τ 197 x1.toNatClampNeg) (τ 197 (x1 + 1).toNatClampNeg) τ)).toNatClampNeg ((g_X9_comes N (τ 197 x1.toNatClampNeg) (τ 197 (x1 + 1).toNatClampNeg) τ) 197 (x1 + 2).toNatClampNeg))) 197 (x1 + 3).toNatClampNeg)))) 73 ∧ True))))))))))))
theorem ct_X9_isToldSo {E : tw_E}  {N : Nat}  {x1 : Int32} {τ : tw_T} (hp : p_X9_isToldSo N x1 τ)  : tw_Cv E 3 mX9_isToldSo [.ref 190, .int x1] τ (g_X9_isToldSo N x1 τ) := by
  unfold p_X9_isToldSo at hp
  refine ct_of (by decide) (by simp [Value.category]) (Nat.le_of_ble_eq_true rfl) (fun K hE F => ?_)
  subst hE
  refine rw_aload_n F dc_X9_isToldSo_0 rfl ?_
  refine rw_getR F dc_X9_isToldSo_1 fl_RX9_45 (by first | rfl | assumption | decide | exact r73_k (by assumption) | exact fb_k (by assumption) | exact sb_k (by assumption) | exact tb_k (by assumption) | exact sb_li (by assumption) | exact sb_s (by assumption) | exact tb_n (by assumption) | exact fb_k (sb_f (by assumption))) (by first | rfl | assumption | exact lk6 (by assumption) _ | exact lk2 (by assumption) _ | exact fb_l0 (by assumption) | exact fb_l1 (by assumption) | exact sb_l0 (by assumption) | exact sb_l1 (by assumption) | exact sb_l2 (by assumption) | exact sb_l3 (by assumption) | exact tb_l0 (by assumption) | exact tb_l1 (by assumption) | exact tb_l2 (by assumption) | exact lk2 (sb_li (by assumption)) _ | exact fb_l0 (sb_f (by assumption)) | exact fb_l1 (sb_f (by assumption))) ?_
  refine rw_iload_n F dc_X9_isToldSo_4 rfl ?_
  refine rw_iconst (v := 1) F dc_X9_isToldSo_5 rfl ?_
  refine rw_iadd F dc_X9_isToldSo_6 ?_
  obtain ⟨hs1, hp⟩ := hp
  refine rw_iaC F dc_X9_isToldSo_7 (by first | rfl | assumption | decide | exact r73_k (by assumption) | exact fb_k (by assumption) | exact sb_k (by assumption) | exact tb_k (by assumption) | exact sb_li (by assumption) | exact sb_s (by assumption) | exact tb_n (by assumption) | exact fb_k (sb_f (by assumption))) (by first | rfl | exact r73_n (by assumption) | exact sb_sn (by assumption) | exact tb_nn (by assumption)) hs1 ?_
  refine rw_istore_n F dc_X9_isToldSo_8 (by decide) rfl ?_
  refine rw_aload_n F dc_X9_isToldSo_9 rfl ?_
  refine rw_getR F dc_X9_isToldSo_10 fl_RX9_45 (by first | rfl | assumption | decide | exact r73_k (by assumption) | exact fb_k (by assumption) | exact sb_k (by assumption) | exact tb_k (by assumption) | exact sb_li (by assumption) | exact sb_s (by assumption) | exact tb_n (by assumption) | exact fb_k (sb_f (by assumption))) (by first | rfl | assumption | exact lk6 (by assumption) _ | exact lk2 (by assumption) _ | exact fb_l0 (by assumption) | exact fb_l1 (by assumption) | exact sb_l0 (by assumption) | exact sb_l1 (by assumption) | exact sb_l2 (by assumption) | exact sb_l3 (by assumption) | exact tb_l0 (by assumption) | exact tb_l1 (by assumption) | exact tb_l2 (by assumption) | exact lk2 (sb_li (by assumption)) _ | exact fb_l0 (sb_f (by assumption)) | exact fb_l1 (sb_f (by assumption))) ?_
  refine rw_iload_n F dc_X9_isToldSo_13 rfl ?_
  obtain ⟨hs2, hp⟩ := hp
  refine rw_iaC F dc_X9_isToldSo_14 (by first | rfl | assumption | decide | exact r73_k (by assumption) | exact fb_k (by assumption) | exact sb_k (by assumption) | exact tb_k (by assumption) | exact sb_li (by assumption) | exact sb_s (by assumption) | exact tb_n (by assumption) | exact fb_k (sb_f (by assumption))) (by first | rfl | exact r73_n (by assumption) | exact sb_sn (by assumption) | exact tb_nn (by assumption)) hs2 ?_
  refine rw_tswc (10) 0 40 F dc_X9_isToldSo_15 rfl rfl rfl (by decide) (fun c3_10 => ?_) (fun c3_10 => ?_)
  · rw [if_pos c3_10] at hp
    refine rw_aload_n F dc_X9_isToldSo_40 rfl ?_
    refine rw_getR F dc_X9_isToldSo_41 fl_RX9_9 (by first | rfl | assumption | decide | exact r73_k (by assumption) | exact fb_k (by assumption) | exact sb_k (by assumption) | exact tb_k (by assumption) | exact sb_li (by assumption) | exact sb_s (by assumption) | exact tb_n (by assumption) | exact fb_k (sb_f (by assumption))) (by first | rfl | assumption | exact lk6 (by assumption) _ | exact lk2 (by assumption) _ | exact fb_l0 (by assumption) | exact fb_l1 (by assumption) | exact sb_l0 (by assumption) | exact sb_l1 (by assumption) | exact sb_l2 (by assumption) | exact sb_l3 (by assumption) | exact tb_l0 (by assumption) | exact tb_l1 (by assumption) | exact tb_l2 (by assumption) | exact lk2 (sb_li (by assumption)) _ | exact fb_l0 (sb_f (by assumption)) | exact fb_l1 (sb_f (by assumption))) ?_
    refine rw_iconst (v := 3) F dc_X9_isToldSo_44 rfl ?_
    refine rw_iload_n F dc_X9_isToldSo_45 rfl ?_
    refine rw_isN F dc_X9_isToldSo_46 (by first | rfl | assumption | decide | exact r73_k (by assumption) | exact fb_k (by assumption) | exact sb_k (by assumption) | exact tb_k (by assumption) | exact sb_li (by assumption) | exact sb_s (by assumption) | exact tb_n (by assumption) | exact fb_k (sb_f (by assumption))) rfl (by decide) ?_
    refine rw_goto (tgt := 136) F dc_X9_isToldSo_47 rfl ?_
    refine rw_vret F dc_X9_isToldSo_136 rfl ?_
    first | exact ⟨rfl, by first | (simp only [g_X9_isToldSo, if_pos c3_10]; done) | rfl | (simp only [g_X9_isToldSo, if_pos c3_10]; rfl)⟩ | contradiction
  rw [if_neg c3_10] at hp
  refine rw_tswc (11) 1 50 F dc_X9_isToldSo_15 rfl rfl rfl (by decide) (fun c3_11 => ?_) (fun c3_11 => ?_)
  · rw [if_pos c3_11] at hp
    refine rw_aload_n F dc_X9_isToldSo_50 rfl ?_
    refine rw_getR F dc_X9_isToldSo_51 fl_RX9_9 (by first | rfl | assumption | decide | exact r73_k (by assumption) | exact fb_k (by assumption) | exact sb_k (by assumption) | exact tb_k (by assumption) | exact sb_li (by assumption) | exact sb_s (by assumption) | exact tb_n (by assumption) | exact fb_k (sb_f (by assumption))) (by first | rfl | assumption | exact lk6 (by assumption) _ | exact lk2 (by assumption) _ | exact fb_l0 (by assumption) | exact fb_l1 (by assumption) | exact sb_l0 (by assumption) | exact sb_l1 (by assumption) | exact sb_l2 (by assumption) | exact sb_l3 (by assumption) | exact tb_l0 (by assumption) | exact tb_l1 (by assumption) | exact tb_l2 (by assumption) | exact lk2 (sb_li (by assumption)) _ | exact fb_l0 (sb_f (by assumption)) | exact fb_l1 (sb_f (by assumption))) ?_
    refine rw_iconst (v := 4) F dc_X9_isToldSo_54 rfl ?_
    refine rw_iload_n F dc_X9_isToldSo_55 rfl ?_
    refine rw_isN F dc_X9_isToldSo_56 (by first | rfl | assumption | decide | exact r73_k (by assumption) | exact fb_k (by assumption) | exact sb_k (by assumption) | exact tb_k (by assumption) | exact sb_li (by assumption) | exact sb_s (by assumption) | exact tb_n (by assumption) | exact fb_k (sb_f (by assumption))) rfl (by decide) ?_
    refine rw_goto (tgt := 136) F dc_X9_isToldSo_57 rfl ?_
    refine rw_vret F dc_X9_isToldSo_136 rfl ?_
    first | exact ⟨rfl, by first | (simp only [g_X9_isToldSo, if_neg c3_10, if_pos c3_11]; done) | rfl | (simp only [g_X9_isToldSo, if_neg c3_10, if_pos c3_11]; rfl)⟩ | contradiction
  rw [if_neg c3_11] at hp
  refine rw_tswc (12) 2 60 F dc_X9_isToldSo_15 rfl rfl rfl (by decide) (fun c3_12 => ?_) (fun c3_12 => ?_)
  · rw [if_pos c3_12] at hp
    refine rw_aload_n F dc_X9_isToldSo_60 rfl ?_
    refine rw_getR F dc_X9_isToldSo_61 fl_RX9_9 (by first | rfl | assumption | decide | exact r73_k (by assumption) | exact fb_k (by assumption) | exact sb_k (by assumption) | exact tb_k (by assumption) | exact sb_li (by assumption) | exact sb_s (by assumption) | exact tb_n (by assumption) | exact fb_k (sb_f (by assumption))) (by first | rfl | assumption | exact lk6 (by assumption) _ | exact lk2 (by assumption) _ | exact fb_l0 (by assumption) | exact fb_l1 (by assumption) | exact sb_l0 (by assumption) | exact sb_l1 (by assumption) | exact sb_l2 (by assumption) | exact sb_l3 (by assumption) | exact tb_l0 (by assumption) | exact tb_l1 (by assumption) | exact tb_l2 (by assumption) | exact lk2 (sb_li (by assumption)) _ | exact fb_l0 (sb_f (by assumption)) | exact fb_l1 (sb_f (by assumption))) ?_
    refine rw_iconst (v := 5) F dc_X9_isToldSo_64 rfl ?_
    refine rw_iload_n F dc_X9_isToldSo_65 rfl ?_
    refine rw_isN F dc_X9_isToldSo_66 (by first | rfl | assumption | decide | exact r73_k (by assumption) | exact fb_k (by assumption) | exact sb_k (by assumption) | exact tb_k (by assumption) | exact sb_li (by assumption) | exact sb_s (by assumption) | exact tb_n (by assumption) | exact fb_k (sb_f (by assumption))) rfl (by decide) ?_
    refine rw_goto (tgt := 136) F dc_X9_isToldSo_67 rfl ?_
    refine rw_vret F dc_X9_isToldSo_136 rfl ?_
    first | exact ⟨rfl, by first | (simp only [g_X9_isToldSo, if_neg c3_10, if_neg c3_11, if_pos c3_12]; done) | rfl | (simp only [g_X9_isToldSo, if_neg c3_10, if_neg c3_11, if_pos c3_12]; rfl)⟩ | contradiction
  rw [if_neg c3_12] at hp
  refine rw_tsw F dc_X9_isToldSo_15 70 (Or.inl ⟨by have h0 := lv_neT c3_10 (a := 10) (by decide); have h1 := lv_neT c3_11 (a := 11) (by decide); have h2 := lv_neT c3_12 (a := 12) (by decide); omega, rfl⟩) ?_
  refine rw_aload_n F dc_X9_isToldSo_70 rfl ?_
  refine rw_aload_n F dc_X9_isToldSo_71 rfl ?_
  refine rw_getR F dc_X9_isToldSo_72 fl_RX9_45 (by first | rfl | assumption | decide | exact r73_k (by assumption) | exact fb_k (by assumption) | exact sb_k (by assumption) | exact tb_k (by assumption) | exact sb_li (by assumption) | exact sb_s (by assumption) | exact tb_n (by assumption) | exact fb_k (sb_f (by assumption))) (by first | rfl | assumption | exact lk6 (by assumption) _ | exact lk2 (by assumption) _ | exact fb_l0 (by assumption) | exact fb_l1 (by assumption) | exact sb_l0 (by assumption) | exact sb_l1 (by assumption) | exact sb_l2 (by assumption) | exact sb_l3 (by assumption) | exact tb_l0 (by assumption) | exact tb_l1 (by assumption) | exact tb_l2 (by assumption) | exact lk2 (sb_li (by assumption)) _ | exact fb_l0 (sb_f (by assumption)) | exact fb_l1 (sb_f (by assumption))) ?_
  refine rw_iload_n F dc_X9_isToldSo_75 rfl ?_
  obtain ⟨hs4, hp⟩ := hp
  refine rw_iaC F dc_X9_isToldSo_76 (by first | rfl | assumption | decide | exact r73_k (by assumption) | exact fb_k (by assumption) | exact sb_k (by assumption) | exact tb_k (by assumption) | exact sb_li (by assumption) | exact sb_s (by assumption) | exact tb_n (by assumption) | exact fb_k (sb_f (by assumption))) (by first | rfl | exact r73_n (by assumption) | exact sb_sn (by assumption) | exact tb_nn (by assumption)) hs4 ?_
  refine rw_iload_n F dc_X9_isToldSo_77 rfl ?_
  obtain ⟨hs5, hp⟩ := hp
  refine rw_cVi F [_, _] dc_X9_isToldSo_78 mv_X9_comes ml_RX9_104 (by first | decide | omega) (rc_9 (by first | rfl | assumption | decide | exact r73_k (by assumption) | exact fb_k (by assumption) | exact sb_k (by assumption) | exact tb_k (by assumption) | exact sb_li (by assumption) | exact sb_s (by assumption) | exact tb_n (by assumption) | exact fb_k (sb_f (by assumption)))) rfl rfl (Nat.le_of_ble_eq_true rfl) (cr_X9_comes hs5) ?_
  refine rw_istore_n F dc_X9_isToldSo_81 (by decide) rfl ?_
  refine rw_aload_n F dc_X9_isToldSo_82 rfl ?_
  refine rw_getR F dc_X9_isToldSo_83 fl_RX9_9 (by first | rfl | assumption | decide | exact r73_k (by assumption) | exact fb_k (by assumption) | exact sb_k (by assumption) | exact tb_k (by assumption) | exact sb_li (by assumption) | exact sb_s (by assumption) | exact tb_n (by assumption) | exact fb_k (sb_f (by assumption))) (by first | rfl | assumption | exact lk6 (by assumption) _ | exact lk2 (by assumption) _ | exact fb_l0 (by assumption) | exact fb_l1 (by assumption) | exact sb_l0 (by assumption) | exact sb_l1 (by assumption) | exact sb_l2 (by assumption) | exact sb_l3 (by assumption) | exact tb_l0 (by assumption) | exact tb_l1 (by assumption) | exact tb_l2 (by assumption) | exact lk2 (sb_li (by assumption)) _ | exact fb_l0 (sb_f (by assumption)) | exact fb_l1 (sb_f (by assumption))) ?_
  refine rw_iload_n F dc_X9_isToldSo_86 rfl ?_
  refine rw_iconst (v := 2) F dc_X9_isToldSo_87 rfl ?_
  refine rw_cSi F [_, _] dc_X9_isToldSo_88 ms_X9_shipAt ml_RX9_93 (by first | decide | omega)  rfl rfl (Nat.le_of_ble_eq_true rfl) ct_X9_shipAt ?_
  refine rw_aload_n F dc_X9_isToldSo_91 rfl ?_
  refine rw_getR F dc_X9_isToldSo_92 fl_RX9_45 (by first | rfl | assumption | decide | exact r73_k (by assumption) | exact fb_k (by assumption) | exact sb_k (by assumption) | exact tb_k (by assumption) | exact sb_li (by assumption) | exact sb_s (by assumption) | exact tb_n (by assumption) | exact fb_k (sb_f (by assumption))) (by first | rfl | assumption | exact lk6 (by assumption) _ | exact lk2 (by assumption) _ | exact fb_l0 (by assumption) | exact fb_l1 (by assumption) | exact sb_l0 (by assumption) | exact sb_l1 (by assumption) | exact sb_l2 (by assumption) | exact sb_l3 (by assumption) | exact tb_l0 (by assumption) | exact tb_l1 (by assumption) | exact tb_l2 (by assumption) | exact lk2 (sb_li (by assumption)) _ | exact fb_l0 (sb_f (by assumption)) | exact fb_l1 (sb_f (by assumption))) ?_
  refine rw_iload_n F dc_X9_isToldSo_95 rfl ?_
  refine rw_iconst (v := 2) F dc_X9_isToldSo_96 rfl ?_
  refine rw_iadd F dc_X9_isToldSo_97 ?_
  obtain ⟨hs6, hp⟩ := hp
  refine rw_iaC F dc_X9_isToldSo_98 (by first | rfl | assumption | decide | exact r73_k (by assumption) | exact fb_k (by assumption) | exact sb_k (by assumption) | exact tb_k (by assumption) | exact sb_li (by assumption) | exact sb_s (by assumption) | exact tb_n (by assumption) | exact fb_k (sb_f (by assumption))) (by first | rfl | exact r73_n (by assumption) | exact sb_sn (by assumption) | exact tb_nn (by assumption)) hs6 ?_
  obtain ⟨hs7, hp⟩ := hp
  refine rw_isC F dc_X9_isToldSo_99 (by first | rfl | assumption | decide | exact r73_k (by assumption) | exact fb_k (by assumption) | exact sb_k (by assumption) | exact tb_k (by assumption) | exact sb_li (by assumption) | exact sb_s (by assumption) | exact tb_n (by assumption) | exact fb_k (sb_f (by assumption))) (by first | rfl | exact r73_n (by assumption) | exact sb_sn (by assumption) | exact tb_nn (by assumption)) hs7 ?_
  refine rw_aload_n F dc_X9_isToldSo_100 rfl ?_
  refine rw_getR F dc_X9_isToldSo_101 fl_RX9_9 (by first | rfl | assumption | decide | exact r73_k (by assumption) | exact fb_k (by assumption) | exact sb_k (by assumption) | exact tb_k (by assumption) | exact sb_li (by assumption) | exact sb_s (by assumption) | exact tb_n (by assumption) | exact fb_k (sb_f (by assumption))) (by first | rfl | assumption | exact lk6 (by assumption) _ | exact lk2 (by assumption) _ | exact fb_l0 (by assumption) | exact fb_l1 (by assumption) | exact sb_l0 (by assumption) | exact sb_l1 (by assumption) | exact sb_l2 (by assumption) | exact sb_l3 (by assumption) | exact tb_l0 (by assumption) | exact tb_l1 (by assumption) | exact tb_l2 (by assumption) | exact lk2 (sb_li (by assumption)) _ | exact fb_l0 (sb_f (by assumption)) | exact fb_l1 (sb_f (by assumption))) ?_
  refine rw_iload_n F dc_X9_isToldSo_104 rfl ?_
  refine rw_iconst (v := 3) F dc_X9_isToldSo_105 rfl ?_
  refine rw_cSi F [_, _] dc_X9_isToldSo_106 ms_X9_shipAt ml_RX9_93 (by first | decide | omega)  rfl rfl (Nat.le_of_ble_eq_true rfl) ct_X9_shipAt ?_
  refine rw_aload_n F dc_X9_isToldSo_109 rfl ?_
  refine rw_getR F dc_X9_isToldSo_110 fl_RX9_45 (by first | rfl | assumption | decide | exact r73_k (by assumption) | exact fb_k (by assumption) | exact sb_k (by assumption) | exact tb_k (by assumption) | exact sb_li (by assumption) | exact sb_s (by assumption) | exact tb_n (by assumption) | exact fb_k (sb_f (by assumption))) (by first | rfl | assumption | exact lk6 (by assumption) _ | exact lk2 (by assumption) _ | exact fb_l0 (by assumption) | exact fb_l1 (by assumption) | exact sb_l0 (by assumption) | exact sb_l1 (by assumption) | exact sb_l2 (by assumption) | exact sb_l3 (by assumption) | exact tb_l0 (by assumption) | exact tb_l1 (by assumption) | exact tb_l2 (by assumption) | exact lk2 (sb_li (by assumption)) _ | exact fb_l0 (sb_f (by assumption)) | exact fb_l1 (sb_f (by assumption))) ?_
  refine rw_iload_n F dc_X9_isToldSo_113 rfl ?_
  refine rw_iconst (v := 3) F dc_X9_isToldSo_114 rfl ?_
  refine rw_iadd F dc_X9_isToldSo_115 ?_
  obtain ⟨hs8, hp⟩ := hp
  refine rw_iaC F dc_X9_isToldSo_116 (by first | rfl | assumption | decide | exact r73_k (by assumption) | exact fb_k (by assumption) | exact sb_k (by assumption) | exact tb_k (by assumption) | exact sb_li (by assumption) | exact sb_s (by assumption) | exact tb_n (by assumption) | exact fb_k (sb_f (by assumption))) (by first | rfl | exact r73_n (by assumption) | exact sb_sn (by assumption) | exact tb_nn (by assumption)) hs8 ?_
  obtain ⟨hs9, hp⟩ := hp
  refine rw_isC F dc_X9_isToldSo_117 (by first | rfl | assumption | decide | exact r73_k (by assumption) | exact fb_k (by assumption) | exact sb_k (by assumption) | exact tb_k (by assumption) | exact sb_li (by assumption) | exact sb_s (by assumption) | exact tb_n (by assumption) | exact fb_k (sb_f (by assumption))) (by first | rfl | exact r73_n (by assumption) | exact sb_sn (by assumption) | exact tb_nn (by assumption)) hs9 ?_
  refine rw_aload_n F dc_X9_isToldSo_118 rfl ?_
  refine rw_getR F dc_X9_isToldSo_119 fl_RX9_9 (by first | rfl | assumption | decide | exact r73_k (by assumption) | exact fb_k (by assumption) | exact sb_k (by assumption) | exact tb_k (by assumption) | exact sb_li (by assumption) | exact sb_s (by assumption) | exact tb_n (by assumption) | exact fb_k (sb_f (by assumption))) (by first | rfl | assumption | exact lk6 (by assumption) _ | exact lk2 (by assumption) _ | exact fb_l0 (by assumption) | exact fb_l1 (by assumption) | exact sb_l0 (by assumption) | exact sb_l1 (by assumption) | exact sb_l2 (by assumption) | exact sb_l3 (by assumption) | exact tb_l0 (by assumption) | exact tb_l1 (by assumption) | exact tb_l2 (by assumption) | exact lk2 (sb_li (by assumption)) _ | exact fb_l0 (sb_f (by assumption)) | exact fb_l1 (sb_f (by assumption))) ?_
  refine rw_iload_n F dc_X9_isToldSo_122 rfl ?_
  refine rw_iconst (v := 4) F dc_X9_isToldSo_123 rfl ?_
  refine rw_cSi F [_, _] dc_X9_isToldSo_124 ms_X9_shipAt ml_RX9_93 (by first | decide | omega)  rfl rfl (Nat.le_of_ble_eq_true rfl) ct_X9_shipAt ?_
  refine rw_aload_n F dc_X9_isToldSo_127 rfl ?_
  refine rw_getR F dc_X9_isToldSo_128 fl_RX9_45 (by first | rfl | assumption | decide | exact r73_k (by assumption) | exact fb_k (by assumption) | exact sb_k (by assumption) | exact tb_k (by assumption) | exact sb_li (by assumption) | exact sb_s (by assumption) | exact tb_n (by assumption) | exact fb_k (sb_f (by assumption))) (by first | rfl | assumption | exact lk6 (by assumption) _ | exact lk2 (by assumption) _ | exact fb_l0 (by assumption) | exact fb_l1 (by assumption) | exact sb_l0 (by assumption) | exact sb_l1 (by assumption) | exact sb_l2 (by assumption) | exact sb_l3 (by assumption) | exact tb_l0 (by assumption) | exact tb_l1 (by assumption) | exact tb_l2 (by assumption) | exact lk2 (sb_li (by assumption)) _ | exact fb_l0 (sb_f (by assumption)) | exact fb_l1 (sb_f (by assumption))) ?_
  refine rw_iload_n F dc_X9_isToldSo_131 rfl ?_
  refine rw_iconst (v := 4) F dc_X9_isToldSo_132 rfl ?_
  refine rw_iadd F dc_X9_isToldSo_133 ?_
  obtain ⟨hs10, hp⟩ := hp
  refine rw_iaC F dc_X9_isToldSo_134 (by first | rfl | assumption | decide | exact r73_k (by assumption) | exact fb_k (by assumption) | exact sb_k (by assumption) | exact tb_k (by assumption) | exact sb_li (by assumption) | exact sb_s (by assumption) | exact tb_n (by assumption) | exact fb_k (sb_f (by assumption))) (by first | rfl | exact r73_n (by assumption) | exact sb_sn (by assumption) | exact tb_nn (by assumption)) hs10 ?_
  obtain ⟨hs11, hp⟩ := hp
  refine rw_isC F dc_X9_isToldSo_135 (by first | rfl | assumption | decide | exact r73_k (by assumption) | exact fb_k (by assumption) | exact sb_k (by assumption) | exact tb_k (by assumption) | exact sb_li (by assumption) | exact sb_s (by assumption) | exact tb_n (by assumption) | exact fb_k (sb_f (by assumption))) (by first | rfl | exact r73_n (by assumption) | exact sb_sn (by assumption) | exact tb_nn (by assumption)) hs11 ?_
  refine rw_vret F dc_X9_isToldSo_136 rfl ?_
  first | exact ⟨rfl, by first | (simp only [g_X9_isToldSo, if_neg c3_10, if_neg c3_11, if_neg c3_12]; done) | rfl | (simp only [g_X9_isToldSo, if_neg c3_10, if_neg c3_11, if_neg c3_12]; rfl)⟩ | contradiction
def lg_X9_readShip_79 (N : Nat)  : Nat → Int32 → Int32 → Int32 → Int32 → tw_T → tw_T
  | 0, _, _, _, _, τ => τ
  | n + 1, x1, x2, x3, x4, τ => if (f_X9_takesWord N 24 τ) = (0 : Int32) then (tw_sr (g_X9_addItem x1 x2 x3 x4 0 (g_X9_takesWord N 24 τ)) 190 (upd ((g_X9_addItem x1 x2 x3 x4 0 (g_X9_takesWord N 24 τ)) 190) 15 (((g_X9_addItem x1 x2 x3 x4 0 (g_X9_takesWord N 24 τ)) 190 15) + 1))) else (tw_sr (g_X9_addItem x1 x2 x3 x4 1 (g_X9_takesWord N 24 τ)) 190 (upd ((g_X9_addItem x1 x2 x3 x4 1 (g_X9_takesWord N 24 τ)) 190) 15 (((g_X9_addItem x1 x2 x3 x4 1 (g_X9_takesWord N 24 τ)) 190 15) + 1)))
def lo_X9_readShip_79 (N : Nat)  : Nat → Int32 → Int32 → Int32 → Int32 → tw_T → Prop
  | 0, _, _, _, _, _ => False
  | n + 1, x1, x2, x3, x4, τ => p_X9_takesWord N 24 τ ∧ (if (f_X9_takesWord N 24 τ) = (0 : Int32) then (p_X9_addItem x1 x2 x3 x4 0 (g_X9_takesWord N 24 τ) ∧ True) else (p_X9_addItem x1 x2 x3 x4 1 (g_X9_takesWord N 24 τ) ∧ True))
def lg_X9_readShip_57 (N : Nat)  : Nat → Int32 → Int32 → Int32 → tw_T → tw_T
  | 0, _, _, _, τ => τ
  | n + 1, x1, x2, x3, τ => if (f_X9_takesWord N 23 τ) = (0 : Int32) then (lg_X9_readShip_79 N N x1 x2 x3 1 (g_X9_takesWord N 23 τ)) else (lg_X9_readShip_79 N N x1 x2 x3 (f_X9_number N 0 5 (g_X9_takesWord N 23 τ)) (g_X9_number N 0 5 (g_X9_takesWord N 23 τ)))
def lo_X9_readShip_57 (N : Nat)  : Nat → Int32 → Int32 → Int32 → tw_T → Prop
  | 0, _, _, _, _ => False
  | n + 1, x1, x2, x3, τ => p_X9_takesWord N 23 τ ∧ (if (f_X9_takesWord N 23 τ) = (0 : Int32) then (lo_X9_readShip_79 N N x1 x2 x3 1 (g_X9_takesWord N 23 τ)) else (p_X9_number N 0 5 (g_X9_takesWord N 23 τ) ∧ (lo_X9_readShip_79 N N x1 x2 x3 (f_X9_number N 0 5 (g_X9_takesWord N 23 τ)) (g_X9_number N 0 5 (g_X9_takesWord N 23 τ)))))
def lg_X9_readShip_41 (N : Nat)  : Nat → Int32 → Int32 → tw_T → tw_T
  | 0, _, _, τ => τ
  | n + 1, x1, x2, τ => if (f_X9_takesWord N 22 τ) = (0 : Int32) then (lg_X9_readShip_57 N N x1 x2 1 (g_X9_takesWord N 22 τ)) else (lg_X9_readShip_57 N N x1 x2 0 (g_X9_takesWord N 22 τ))
def lo_X9_readShip_41 (N : Nat)  : Nat → Int32 → Int32 → tw_T → Prop
  | 0, _, _, _ => False
  | n + 1, x1, x2, τ => p_X9_takesWord N 22 τ ∧ (if (f_X9_takesWord N 22 τ) = (0 : Int32) then (lo_X9_readShip_57 N N x1 x2 1 (g_X9_takesWord N 22 τ)) else (lo_X9_readShip_57 N N x1 x2 0 (g_X9_takesWord N 22 τ)))
def lg_X9_readShip_18 (N : Nat)  : Nat → Int32 → tw_T → tw_T
  | 0, _, τ => τ
  | n + 1, x1, τ => if (f_X9_takesWord N 21 τ) = (0 : Int32) then (lg_X9_readShip_41 N N x1 11 (g_X9_takesWord N 21 τ)) else (lg_X9_readShip_41 N N x1 (f_X9_number N 0 23 (g_X9_takesWord N 21 τ)) (g_X9_number N 0 23 (g_X9_takesWord N 21 τ)))
def lo_X9_readShip_18 (N : Nat)  : Nat → Int32 → tw_T → Prop
  | 0, _, _ => False
  | n + 1, x1, τ => p_X9_takesWord N 21 τ ∧ (if (f_X9_takesWord N 21 τ) = (0 : Int32) then (lo_X9_readShip_41 N N x1 11 (g_X9_takesWord N 21 τ)) else (p_X9_number N 0 23 (g_X9_takesWord N 21 τ) ∧ (lo_X9_readShip_41 N N x1 (f_X9_number N 0 23 (g_X9_takesWord N 21 τ)) (g_X9_number N 0 23 (g_X9_takesWord N 21 τ)))))
def g_X9_readShip (N : Nat)  (x1 : Int32) (τ : tw_T) : tw_T := if (8 : Int32) ≤ (τ 190 15) then (lg_X9_readShip_18 N N x1 (g_X9_must N 0 τ)) else (lg_X9_readShip_18 N N x1 (g_X9_must N 1 τ))
def p_X9_readShip (N : Nat)  (x1 : Int32) (τ : tw_T) : Prop := if (8 : Int32) ≤ (τ 190 15) then (p_X9_must N 0 τ ∧ (lo_X9_readShip_18 N N x1 (g_X9_must N 0 τ))) else (p_X9_must N 1 τ ∧ (lo_X9_readShip_18 N N x1 (g_X9_must N 1 τ)))
theorem lp_X9_readShip_79 {K : tw_K} {Q : Option Value → tw_T → Prop} (F : tw_F K mX9_readShip 8 Q)   (N : Nat)  : ∀ (n : Nat) (x1 : Int32) (x2 : Int32) (x3 : Int32) (x4 : Int32) (τ : tw_T), lo_X9_readShip_79 N n x1 x2 x3 x4 τ → Q none (lg_X9_readShip_79 N n x1 x2 x3 x4 τ) → tw_R K 79 [.ref 190, .int x1, .int x2, .int x3, .int x4] [] τ := by
  intro n
  induction n with
  | zero => intro x1 x2 x3 x4 τ hp _; exact False.elim hp
  | succ n ih =>
    intro x1 x2 x3 x4 τ hp hq
    simp only [lo_X9_readShip_79] at hp
    simp only [lg_X9_readShip_79] at hq
    refine rw_aload_n F dc_X9_readShip_79 rfl ?_
    refine rw_iload_n F dc_X9_readShip_80 rfl ?_
    refine rw_iload_n F dc_X9_readShip_81 rfl ?_
    refine rw_iload_n F dc_X9_readShip_82 rfl ?_
    refine rw_iload F dc_X9_readShip_83 rfl ?_
    refine rw_aload_n F dc_X9_readShip_85 rfl ?_
    refine rw_ldcwS F 24 dc_X9_readShip_86 rfl ?_
    obtain ⟨hs1, hp⟩ := hp
    refine rw_cVi F [_] dc_X9_readShip_89 mv_X9_takesWord ml_RX9_260 (by first | decide | omega) (rc_9 (by first | rfl | assumption | decide | exact r73_k (by assumption) | exact fb_k (by assumption) | exact sb_k (by assumption) | exact tb_k (by assumption) | exact sb_li (by assumption) | exact sb_s (by assumption) | exact tb_n (by assumption) | exact fb_k (sb_f (by assumption)))) rfl rfl (Nat.le_of_ble_eq_true rfl) (ct_X9_takesWord hs1) ?_
    refine rw_if_eq (tgt := 99) F dc_X9_readShip_92 rfl (fun c2 => ?_) (fun c2 => ?_)
    · rw [if_pos c2] at hp
      refine rw_iconst (v := 0) F dc_X9_readShip_99 rfl ?_
      obtain ⟨hs3, hp⟩ := hp
      refine rw_cVv F [_, _, _, _, _] dc_X9_readShip_100 mv_X9_addItem ml_RX9_272 (by first | decide | omega) (rc_9 (by first | rfl | assumption | decide | exact r73_k (by assumption) | exact fb_k (by assumption) | exact sb_k (by assumption) | exact tb_k (by assumption) | exact sb_li (by assumption) | exact sb_s (by assumption) | exact tb_n (by assumption) | exact fb_k (sb_f (by assumption)))) rfl rfl (Nat.le_of_ble_eq_true rfl) (ct_X9_addItem hs3) ?_
      refine rw_aload_n F dc_X9_readShip_103 rfl ?_
      refine rw_dup F dc_X9_readShip_104 rfl ?_
      refine rw_getI F dc_X9_readShip_105 fl_RX9_255 (by first | rfl | assumption | decide | exact r73_k (by assumption) | exact fb_k (by assumption) | exact sb_k (by assumption) | exact tb_k (by assumption) | exact sb_li (by assumption) | exact sb_s (by assumption) | exact tb_n (by assumption) | exact fb_k (sb_f (by assumption))) (by first | rfl | assumption | exact lk6 (by assumption) _ | exact lk2 (by assumption) _ | exact fb_l0 (by assumption) | exact fb_l1 (by assumption) | exact sb_l0 (by assumption) | exact sb_l1 (by assumption) | exact sb_l2 (by assumption) | exact sb_l3 (by assumption) | exact tb_l0 (by assumption) | exact tb_l1 (by assumption) | exact tb_l2 (by assumption) | exact lk2 (sb_li (by assumption)) _ | exact fb_l0 (sb_f (by assumption)) | exact fb_l1 (sb_f (by assumption))) ?_
      refine rw_iconst (v := 1) F dc_X9_readShip_108 rfl ?_
      refine rw_iadd F dc_X9_readShip_109 ?_
      refine rw_put F dc_X9_readShip_110 pf_RX9_255 (by first | rfl | assumption | decide | exact r73_k (by assumption) | exact fb_k (by assumption) | exact sb_k (by assumption) | exact tb_k (by assumption) | exact sb_li (by assumption) | exact sb_s (by assumption) | exact tb_n (by assumption) | exact fb_k (sb_f (by assumption))) (by first | rfl | assumption | exact lk6 (by assumption) _ | exact lk2 (by assumption) _ | exact fb_l0 (by assumption) | exact fb_l1 (by assumption) | exact sb_l0 (by assumption) | exact sb_l1 (by assumption) | exact sb_l2 (by assumption) | exact sb_l3 (by assumption) | exact tb_l0 (by assumption) | exact tb_l1 (by assumption) | exact tb_l2 (by assumption) | exact lk2 (sb_li (by assumption)) _ | exact fb_l0 (sb_f (by assumption)) | exact fb_l1 (sb_f (by assumption))) rfl rfl ?_
      refine rw_vret F dc_X9_readShip_113 rfl ?_
      first | exact (by simpa only [if_pos c2] using hq) | contradiction
    · rw [if_neg c2] at hp
      refine rw_iconst (v := 1) F dc_X9_readShip_95 rfl ?_
      refine rw_goto (tgt := 100) F dc_X9_readShip_96 rfl ?_
      obtain ⟨hs4, hp⟩ := hp
      refine rw_cVv F [_, _, _, _, _] dc_X9_readShip_100 mv_X9_addItem ml_RX9_272 (by first | decide | omega) (rc_9 (by first | rfl | assumption | decide | exact r73_k (by assumption) | exact fb_k (by assumption) | exact sb_k (by assumption) | exact tb_k (by assumption) | exact sb_li (by assumption) | exact sb_s (by assumption) | exact tb_n (by assumption) | exact fb_k (sb_f (by assumption)))) rfl rfl (Nat.le_of_ble_eq_true rfl) (ct_X9_addItem hs4) ?_
      refine rw_aload_n F dc_X9_readShip_103 rfl ?_
      refine rw_dup F dc_X9_readShip_104 rfl ?_
      refine rw_getI F dc_X9_readShip_105 fl_RX9_255 (by first | rfl | assumption | decide | exact r73_k (by assumption) | exact fb_k (by assumption) | exact sb_k (by assumption) | exact tb_k (by assumption) | exact sb_li (by assumption) | exact sb_s (by assumption) | exact tb_n (by assumption) | exact fb_k (sb_f (by assumption))) (by first | rfl | assumption | exact lk6 (by assumption) _ | exact lk2 (by assumption) _ | exact fb_l0 (by assumption) | exact fb_l1 (by assumption) | exact sb_l0 (by assumption) | exact sb_l1 (by assumption) | exact sb_l2 (by assumption) | exact sb_l3 (by assumption) | exact tb_l0 (by assumption) | exact tb_l1 (by assumption) | exact tb_l2 (by assumption) | exact lk2 (sb_li (by assumption)) _ | exact fb_l0 (sb_f (by assumption)) | exact fb_l1 (sb_f (by assumption))) ?_
      refine rw_iconst (v := 1) F dc_X9_readShip_108 rfl ?_
      refine rw_iadd F dc_X9_readShip_109 ?_
      refine rw_put F dc_X9_readShip_110 pf_RX9_255 (by first | rfl | assumption | decide | exact r73_k (by assumption) | exact fb_k (by assumption) | exact sb_k (by assumption) | exact tb_k (by assumption) | exact sb_li (by assumption) | exact sb_s (by assumption) | exact tb_n (by assumption) | exact fb_k (sb_f (by assumption))) (by first | rfl | assumption | exact lk6 (by assumption) _ | exact lk2 (by assumption) _ | exact fb_l0 (by assumption) | exact fb_l1 (by assumption) | exact sb_l0 (by assumption) | exact sb_l1 (by assumption) | exact sb_l2 (by assumption) | exact sb_l3 (by assumption) | exact tb_l0 (by assumption) | exact tb_l1 (by assumption) | exact tb_l2 (by assumption) | exact lk2 (sb_li (by assumption)) _ | exact fb_l0 (sb_f (by assumption)) | exact fb_l1 (sb_f (by assumption))) rfl rfl ?_
      refine rw_vret F dc_X9_readShip_113 rfl ?_
      first | exact (by simpa only [if_neg c2] using hq) | contradiction
theorem lp_X9_readShip_57 {K : tw_K} {Q : Option Value → tw_T → Prop} (F : tw_F K mX9_readShip 8 Q)   (N : Nat)  : ∀ (n : Nat) (x1 : Int32) (x2 : Int32) (x3 : Int32) (τ : tw_T), lo_X9_readShip_57 N n x1 x2 x3 τ → Q none (lg_X9_readShip_57 N n x1 x2 x3 τ) → tw_R K 57 [.ref 190, .int x1, .int x2, .int x3, .null] [] τ := by
  intro n
  induction n with
  | zero => intro x1 x2 x3 τ hp _; exact False.elim hp
  | succ n ih =>
    intro x1 x2 x3 τ hp hq
    simp only [lo_X9_readShip_57] at hp
    simp only [lg_X9_readShip_57] at hq
    refine rw_aload_n F dc_X9_readShip_57 rfl ?_
    refine rw_ldcwS F 23 dc_X9_readShip_58 rfl ?_
    obtain ⟨hs1, hp⟩ := hp
    refine rw_cVi F [_] dc_X9_readShip_61 mv_X9_takesWord ml_RX9_260 (by first | decide | omega) (rc_9 (by first | rfl | assumption | decide | exact r73_k (by assumption) | exact fb_k (by assumption) | exact sb_k (by assumption) | exact tb_k (by assumption) | exact sb_li (by assumption) | exact sb_s (by assumption) | exact tb_n (by assumption) | exact fb_k (sb_f (by assumption)))) rfl rfl (Nat.le_of_ble_eq_true rfl) (ct_X9_takesWord hs1) ?_
    refine rw_if_eq (tgt := 76) F dc_X9_readShip_64 rfl (fun c2 => ?_) (fun c2 => ?_)
    · rw [if_pos c2] at hp
      refine rw_iconst (v := 1) F dc_X9_readShip_76 rfl ?_
      refine rw_istore F dc_X9_readShip_77 (by decide) rfl ?_
      first | exact lp_X9_readShip_79 F  N N _ _ _ _ _ hp (by simpa only [if_pos c2] using hq) | contradiction
    · rw [if_neg c2] at hp
      refine rw_aload_n F dc_X9_readShip_67 rfl ?_
      refine rw_iconst (v := 0) F dc_X9_readShip_68 rfl ?_
      refine rw_iconst (v := 5) F dc_X9_readShip_69 rfl ?_
      obtain ⟨hs3, hp⟩ := hp
      refine rw_cVi F [_, _] dc_X9_readShip_70 mv_X9_number ml_RX9_263 (by first | decide | omega) (rc_9 (by first | rfl | assumption | decide | exact r73_k (by assumption) | exact fb_k (by assumption) | exact sb_k (by assumption) | exact tb_k (by assumption) | exact sb_li (by assumption) | exact sb_s (by assumption) | exact tb_n (by assumption) | exact fb_k (sb_f (by assumption)))) rfl rfl (Nat.le_of_ble_eq_true rfl) (ct_X9_number hs3) ?_
      refine rw_goto (tgt := 77) F dc_X9_readShip_73 rfl ?_
      refine rw_istore F dc_X9_readShip_77 (by decide) rfl ?_
      first | exact lp_X9_readShip_79 F  N N _ _ _ _ _ hp (by simpa only [if_neg c2] using hq) | contradiction
theorem lp_X9_readShip_41 {K : tw_K} {Q : Option Value → tw_T → Prop} (F : tw_F K mX9_readShip 8 Q)   (N : Nat)  : ∀ (n : Nat) (x1 : Int32) (x2 : Int32) (τ : tw_T), lo_X9_readShip_41 N n x1 x2 τ → Q none (lg_X9_readShip_41 N n x1 x2 τ) → tw_R K 41 [.ref 190, .int x1, .int x2, .null, .null] [] τ := by
  intro n
  induction n with
  | zero => intro x1 x2 τ hp _; exact False.elim hp
  | succ n ih =>
    intro x1 x2 τ hp hq
    simp only [lo_X9_readShip_41] at hp
    simp only [lg_X9_readShip_41] at hq
    refine rw_aload_n F dc_X9_readShip_41 rfl ?_
    refine rw_ldcwS F 22 dc_X9_readShip_42 rfl ?_
    obtain ⟨hs1, hp⟩ := hp
    refine rw_cVi F [_] dc_X9_readShip_45 mv_X9_takesWord ml_RX9_260 (by first | decide | omega) (rc_9 (by first | rfl | assumption | decide | exact r73_k (by assumption) | exact fb_k (by assumption) | exact sb_k (by assumption) | exact tb_k (by assumption) | exact sb_li (by assumption) | exact sb_s (by assumption) | exact tb_n (by assumption) | exact fb_k (sb_f (by assumption)))) rfl rfl (Nat.le_of_ble_eq_true rfl) (ct_X9_takesWord hs1) ?_
    refine rw_if_eq (tgt := 55) F dc_X9_readShip_48 rfl (fun c2 => ?_) (fun c2 => ?_)
    · rw [if_pos c2] at hp
      refine rw_iconst (v := 1) F dc_X9_readShip_55 rfl ?_
      refine rw_istore_n F dc_X9_readShip_56 (by decide) rfl ?_
      first | exact lp_X9_readShip_57 F  N N _ _ _ _ hp (by simpa only [if_pos c2] using hq) | contradiction
    · rw [if_neg c2] at hp
      refine rw_iconst (v := 0) F dc_X9_readShip_51 rfl ?_
      refine rw_goto (tgt := 56) F dc_X9_readShip_52 rfl ?_
      refine rw_istore_n F dc_X9_readShip_56 (by decide) rfl ?_
      first | exact lp_X9_readShip_57 F  N N _ _ _ _ hp (by simpa only [if_neg c2] using hq) | contradiction
theorem lp_X9_readShip_18 {K : tw_K} {Q : Option Value → tw_T → Prop} (F : tw_F K mX9_readShip 8 Q)   (N : Nat)  : ∀ (n : Nat) (x1 : Int32) (τ : tw_T), lo_X9_readShip_18 N n x1 τ → Q none (lg_X9_readShip_18 N n x1 τ) → tw_R K 18 [.ref 190, .int x1, .null, .null, .null] [] τ := by
  intro n
  induction n with
  | zero => intro x1 τ hp _; exact False.elim hp
  | succ n ih =>
    intro x1 τ hp hq
    simp only [lo_X9_readShip_18] at hp
    simp only [lg_X9_readShip_18] at hq
    refine rw_aload_n F dc_X9_readShip_18 rfl ?_
    refine rw_ldcwS F 21 dc_X9_readShip_19 rfl ?_
    obtain ⟨hs1, hp⟩ := hp
    refine rw_cVi F [_] dc_X9_readShip_22 mv_X9_takesWord ml_RX9_260 (by first | decide | omega) (rc_9 (by first | rfl | assumption | decide | exact r73_k (by assumption) | exact fb_k (by assumption) | exact sb_k (by assumption) | exact tb_k (by assumption) | exact sb_li (by assumption) | exact sb_s (by assumption) | exact tb_n (by assumption) | exact fb_k (sb_f (by assumption)))) rfl rfl (Nat.le_of_ble_eq_true rfl) (ct_X9_takesWord hs1) ?_
    refine rw_if_eq (tgt := 38) F dc_X9_readShip_25 rfl (fun c2 => ?_) (fun c2 => ?_)
    · rw [if_pos c2] at hp
      refine rw_bipush (v := 11) F dc_X9_readShip_38 rfl ?_
      refine rw_istore_n F dc_X9_readShip_40 (by decide) rfl ?_
      first | exact lp_X9_readShip_41 F  N N _ _ _ hp (by simpa only [if_pos c2] using hq) | contradiction
    · rw [if_neg c2] at hp
      refine rw_aload_n F dc_X9_readShip_28 rfl ?_
      refine rw_iconst (v := 0) F dc_X9_readShip_29 rfl ?_
      refine rw_bipush (v := 23) F dc_X9_readShip_30 rfl ?_
      obtain ⟨hs3, hp⟩ := hp
      refine rw_cVi F [_, _] dc_X9_readShip_32 mv_X9_number ml_RX9_263 (by first | decide | omega) (rc_9 (by first | rfl | assumption | decide | exact r73_k (by assumption) | exact fb_k (by assumption) | exact sb_k (by assumption) | exact tb_k (by assumption) | exact sb_li (by assumption) | exact sb_s (by assumption) | exact tb_n (by assumption) | exact fb_k (sb_f (by assumption)))) rfl rfl (Nat.le_of_ble_eq_true rfl) (ct_X9_number hs3) ?_
      refine rw_goto (tgt := 40) F dc_X9_readShip_35 rfl ?_
      refine rw_istore_n F dc_X9_readShip_40 (by decide) rfl ?_
      first | exact lp_X9_readShip_41 F  N N _ _ _ hp (by simpa only [if_neg c2] using hq) | contradiction
theorem cr_X9_readShip {E : tw_E}  {N : Nat}  {x1 : Int32} {τ : tw_T} (hp : p_X9_readShip N x1 τ)  : tw_Cv E 8 mX9_readShip [.ref 190, .int x1] τ (g_X9_readShip N x1 τ) := by
  unfold p_X9_readShip at hp
  refine ct_of (by decide) (by simp [Value.category]) (Nat.le_of_ble_eq_true rfl) (fun K hE F => ?_)
  subst hE
  refine rw_aload_n F dc_X9_readShip_0 rfl ?_
  refine rw_aload_n F dc_X9_readShip_1 rfl ?_
  refine rw_getI F dc_X9_readShip_2 fl_RX9_255 (by first | rfl | assumption | decide | exact r73_k (by assumption) | exact fb_k (by assumption) | exact sb_k (by assumption) | exact tb_k (by assumption) | exact sb_li (by assumption) | exact sb_s (by assumption) | exact tb_n (by assumption) | exact fb_k (sb_f (by assumption))) (by first | rfl | assumption | exact lk6 (by assumption) _ | exact lk2 (by assumption) _ | exact fb_l0 (by assumption) | exact fb_l1 (by assumption) | exact sb_l0 (by assumption) | exact sb_l1 (by assumption) | exact sb_l2 (by assumption) | exact sb_l3 (by assumption) | exact tb_l0 (by assumption) | exact tb_l1 (by assumption) | exact tb_l2 (by assumption) | exact lk2 (sb_li (by assumption)) _ | exact fb_l0 (sb_f (by assumption)) | exact fb_l1 (sb_f (by assumption))) ?_
  refine rw_bipush (v := 8) F dc_X9_readShip_5 rfl ?_
  refine rw_icmp_ge (tgt := 14) F dc_X9_readShip_7 rfl (fun c1 => ?_) (fun c1 => ?_)
  · rw [if_pos c1] at hp
    refine rw_iconst (v := 0) F dc_X9_readShip_14 rfl ?_
    obtain ⟨hs2, hp⟩ := hp
    refine rw_cVv F [_] dc_X9_readShip_15 mv_X9_must ml_RX9_244 (by first | decide | omega) (rc_9 (by first | rfl | assumption | decide | exact r73_k (by assumption) | exact fb_k (by assumption) | exact sb_k (by assumption) | exact tb_k (by assumption) | exact sb_li (by assumption) | exact sb_s (by assumption) | exact tb_n (by assumption) | exact fb_k (sb_f (by assumption)))) rfl rfl (Nat.le_of_ble_eq_true rfl) (ct_X9_must hs2) ?_
    first | exact lp_X9_readShip_18 F  N N _ _ hp ⟨rfl, by first | (simp only [g_X9_readShip, if_pos c1]; done) | rfl | (simp only [g_X9_readShip, if_pos c1]; rfl)⟩ | contradiction
  · rw [if_neg c1] at hp
    refine rw_iconst (v := 1) F dc_X9_readShip_10 rfl ?_
    refine rw_goto (tgt := 15) F dc_X9_readShip_11 rfl ?_
    obtain ⟨hs3, hp⟩ := hp
    refine rw_cVv F [_] dc_X9_readShip_15 mv_X9_must ml_RX9_244 (by first | decide | omega) (rc_9 (by first | rfl | assumption | decide | exact r73_k (by assumption) | exact fb_k (by assumption) | exact sb_k (by assumption) | exact tb_k (by assumption) | exact sb_li (by assumption) | exact sb_s (by assumption) | exact tb_n (by assumption) | exact fb_k (sb_f (by assumption)))) rfl rfl (Nat.le_of_ble_eq_true rfl) (ct_X9_must hs3) ?_
    first | exact lp_X9_readShip_18 F  N N _ _ hp ⟨rfl, by first | (simp only [g_X9_readShip, if_neg c1]; done) | rfl | (simp only [g_X9_readShip, if_neg c1]; rfl)⟩ | contradiction
def lg_X9_readItem_109 (N : Nat)  : Nat → Int32 → Int32 → tw_T → tw_T
  | 0, _, _, τ => τ
  | n + 1, x1, x2, τ => if (f_X9_takesWord N 27 τ) = (0 : Int32) then (g_X9_must N 0 (g_X9_takesWord N 27 τ)) else (g_X9_addItem 12 (f_X9_number N 0 1 (g_X9_takesWord N 27 τ)) 0 0 0 (g_X9_number N 0 1 (g_X9_takesWord N 27 τ)))
def lo_X9_readItem_109 (N : Nat)  : Nat → Int32 → Int32 → tw_T → Prop
  | 0, _, _, _ => False
  | n + 1, x1, x2, τ => p_X9_takesWord N 27 τ ∧ (if (f_X9_takesWord N 27 τ) = (0 : Int32) then (p_X9_must N 0 (g_X9_takesWord N 27 τ) ∧ True) else (p_X9_number N 0 1 (g_X9_takesWord N 27 τ) ∧ (p_X9_addItem 12 (f_X9_number N 0 1 (g_X9_takesWord N 27 τ)) 0 0 0 (g_X9_number N 0 1 (g_X9_takesWord N 27 τ)) ∧ True)))
def lg_X9_readItem_80 (N : Nat)  : Nat → Int32 → Int32 → tw_T → tw_T
  | 0, _, _, τ => τ
  | n + 1, x1, x2, τ => if (f_X9_takesWord N 26 τ) = (0 : Int32) then (lg_X9_readItem_109 N N x1 x2 (g_X9_takesWord N 26 τ)) else (g_X9_addItem 11 (f_X9_number N 0 23 (g_X9_takesWord N 26 τ)) 0 0 0 (g_X9_number N 0 23 (g_X9_takesWord N 26 τ)))
def lo_X9_readItem_80 (N : Nat)  : Nat → Int32 → Int32 → tw_T → Prop
  | 0, _, _, _ => False
  | n + 1, x1, x2, τ => p_X9_takesWord N 26 τ ∧ (if (f_X9_takesWord N 26 τ) = (0 : Int32) then (lo_X9_readItem_109 N N x1 x2 (g_X9_takesWord N 26 τ)) else (p_X9_number N 0 23 (g_X9_takesWord N 26 τ) ∧ (p_X9_addItem 11 (f_X9_number N 0 23 (g_X9_takesWord N 26 τ)) 0 0 0 (g_X9_number N 0 23 (g_X9_takesWord N 26 τ)) ∧ True)))
def lg_X9_readItem_50 (N : Nat)  : Nat → Int32 → Int32 → tw_T → tw_T
  | 0, _, _, τ => τ
  | n + 1, x1, x2, τ => if (f_X9_takesWord N 25 τ) = (0 : Int32) then (lg_X9_readItem_80 N N x1 x2 (g_X9_takesWord N 25 τ)) else (g_X9_addItem 10 (f_X9_number N 0 4095 (g_X9_takesWord N 25 τ)) 0 0 0 (g_X9_number N 0 4095 (g_X9_takesWord N 25 τ)))
def lo_X9_readItem_50 (N : Nat)  : Nat → Int32 → Int32 → tw_T → Prop
  | 0, _, _, _ => False
  | n + 1, x1, x2, τ => p_X9_takesWord N 25 τ ∧ (if (f_X9_takesWord N 25 τ) = (0 : Int32) then (lo_X9_readItem_80 N N x1 x2 (g_X9_takesWord N 25 τ)) else (p_X9_number N 0 4095 (g_X9_takesWord N 25 τ) ∧ (p_X9_addItem 10 (f_X9_number N 0 4095 (g_X9_takesWord N 25 τ)) 0 0 0 (g_X9_number N 0 4095 (g_X9_takesWord N 25 τ)) ∧ True)))
def lg_X9_readItem_38 (N : Nat)  : Nat → Int32 → Int32 → tw_T → tw_T
  | 0, _, _, τ => τ
  | n + 1, x1, x2, τ => if x1 < (0 : Int32) then (lg_X9_readItem_50 N N x1 x2 τ) else (g_X9_readShip N x1 τ)
def lo_X9_readItem_38 (N : Nat)  : Nat → Int32 → Int32 → tw_T → Prop
  | 0, _, _, _ => False
  | n + 1, x1, x2, τ => if x1 < (0 : Int32) then (lo_X9_readItem_50 N N x1 x2 τ) else (p_X9_readShip N x1 τ ∧ True)
def lg_X9_readItem_4 (N : Nat)  : Nat → Int32 → Int32 → tw_T → tw_T
  | 0, _, _, τ => τ
  | n + 1, x1, x2, τ => if (7 : Int32) ≤ x2 then (lg_X9_readItem_38 N N x1 x2 τ) else (if (f_X9_isWord N (14 + x2.toNatClampNeg) τ) = (0 : Int32) then (lg_X9_readItem_4 N n x1 (x2 + 1) τ) else (lg_X9_readItem_4 N n x2 (x2 + 1) τ))
def lo_X9_readItem_4 (N : Nat)  : Nat → Int32 → Int32 → tw_T → Prop
  | 0, _, _, _ => False
  | n + 1, x1, x2, τ => if (7 : Int32) ≤ x2 then (lo_X9_readItem_38 N N x1 x2 τ) else (vp_in x2 7 ∧ (p_X9_isWord N (14 + x2.toNatClampNeg) τ ∧ (if (f_X9_isWord N (14 + x2.toNatClampNeg) τ) = (0 : Int32) then (lo_X9_readItem_4 N n x1 (x2 + 1) τ) else (lo_X9_readItem_4 N n x2 (x2 + 1) τ))))
def g_X9_readItem (N : Nat)   (τ : tw_T) : tw_T := lg_X9_readItem_4 N N ((-1)) 0 τ
def p_X9_readItem (N : Nat)   (τ : tw_T) : Prop := lo_X9_readItem_4 N N ((-1)) 0 τ
theorem lp_X9_readItem_109 {K : tw_K} {Q : Option Value → tw_T → Prop} (F : tw_F K mX9_readItem 9 Q)   (N : Nat)  : ∀ (n : Nat) (x1 : Int32) (x2 : Int32) (τ : tw_T), lo_X9_readItem_109 N n x1 x2 τ → Q none (lg_X9_readItem_109 N n x1 x2 τ) → tw_R K 109 [.ref 190, .int x1, .int x2] [] τ := by
  intro n
  induction n with
  | zero => intro x1 x2 τ hp _; exact False.elim hp
  | succ n ih =>
    intro x1 x2 τ hp hq
    simp only [lo_X9_readItem_109] at hp
    simp only [lg_X9_readItem_109] at hq
    refine rw_aload_n F dc_X9_readItem_109 rfl ?_
    refine rw_ldcwS F 27 dc_X9_readItem_110 rfl ?_
    obtain ⟨hs1, hp⟩ := hp
    refine rw_cVi F [_] dc_X9_readItem_113 mv_X9_takesWord ml_RX9_260 (by first | decide | omega) (rc_9 (by first | rfl | assumption | decide | exact r73_k (by assumption) | exact fb_k (by assumption) | exact sb_k (by assumption) | exact tb_k (by assumption) | exact sb_li (by assumption) | exact sb_s (by assumption) | exact tb_n (by assumption) | exact fb_k (sb_f (by assumption)))) rfl rfl (Nat.le_of_ble_eq_true rfl) (ct_X9_takesWord hs1) ?_
    refine rw_if_eq (tgt := 137) F dc_X9_readItem_116 rfl (fun c2 => ?_) (fun c2 => ?_)
    · rw [if_pos c2] at hp
      refine rw_aload_n F dc_X9_readItem_137 rfl ?_
      refine rw_iconst (v := 0) F dc_X9_readItem_138 rfl ?_
      obtain ⟨hs3, hp⟩ := hp
      refine rw_cVv F [_] dc_X9_readItem_139 mv_X9_must ml_RX9_244 (by first | decide | omega) (rc_9 (by first | rfl | assumption | decide | exact r73_k (by assumption) | exact fb_k (by assumption) | exact sb_k (by assumption) | exact tb_k (by assumption) | exact sb_li (by assumption) | exact sb_s (by assumption) | exact tb_n (by assumption) | exact fb_k (sb_f (by assumption)))) rfl rfl (Nat.le_of_ble_eq_true rfl) (ct_X9_must hs3) ?_
      refine rw_vret F dc_X9_readItem_142 rfl ?_
      first | exact (by simpa only [if_pos c2] using hq) | contradiction
    · rw [if_neg c2] at hp
      refine rw_aload_n F dc_X9_readItem_119 rfl ?_
      refine rw_bipush (v := 12) F dc_X9_readItem_120 rfl ?_
      refine rw_aload_n F dc_X9_readItem_122 rfl ?_
      refine rw_iconst (v := 0) F dc_X9_readItem_123 rfl ?_
      refine rw_iconst (v := 1) F dc_X9_readItem_124 rfl ?_
      obtain ⟨hs4, hp⟩ := hp
      refine rw_cVi F [_, _] dc_X9_readItem_125 mv_X9_number ml_RX9_263 (by first | decide | omega) (rc_9 (by first | rfl | assumption | decide | exact r73_k (by assumption) | exact fb_k (by assumption) | exact sb_k (by assumption) | exact tb_k (by assumption) | exact sb_li (by assumption) | exact sb_s (by assumption) | exact tb_n (by assumption) | exact fb_k (sb_f (by assumption)))) rfl rfl (Nat.le_of_ble_eq_true rfl) (ct_X9_number hs4) ?_
      refine rw_iconst (v := 0) F dc_X9_readItem_128 rfl ?_
      refine rw_iconst (v := 0) F dc_X9_readItem_129 rfl ?_
      refine rw_iconst (v := 0) F dc_X9_readItem_130 rfl ?_
      obtain ⟨hs5, hp⟩ := hp
      refine rw_cVv F [_, _, _, _, _] dc_X9_readItem_131 mv_X9_addItem ml_RX9_272 (by first | decide | omega) (rc_9 (by first | rfl | assumption | decide | exact r73_k (by assumption) | exact fb_k (by assumption) | exact sb_k (by assumption) | exact tb_k (by assumption) | exact sb_li (by assumption) | exact sb_s (by assumption) | exact tb_n (by assumption) | exact fb_k (sb_f (by assumption)))) rfl rfl (Nat.le_of_ble_eq_true rfl) (ct_X9_addItem hs5) ?_
      refine rw_goto (tgt := 142) F dc_X9_readItem_134 rfl ?_
      refine rw_vret F dc_X9_readItem_142 rfl ?_
      first | exact (by simpa only [if_neg c2] using hq) | contradiction
theorem lp_X9_readItem_80 {K : tw_K} {Q : Option Value → tw_T → Prop} (F : tw_F K mX9_readItem 9 Q)   (N : Nat)  : ∀ (n : Nat) (x1 : Int32) (x2 : Int32) (τ : tw_T), lo_X9_readItem_80 N n x1 x2 τ → Q none (lg_X9_readItem_80 N n x1 x2 τ) → tw_R K 80 [.ref 190, .int x1, .int x2] [] τ := by
  intro n
  induction n with
  | zero => intro x1 x2 τ hp _; exact False.elim hp
  | succ n ih =>
    intro x1 x2 τ hp hq
    simp only [lo_X9_readItem_80] at hp
    simp only [lg_X9_readItem_80] at hq
    refine rw_aload_n F dc_X9_readItem_80 rfl ?_
    refine rw_ldcwS F 26 dc_X9_readItem_81 rfl ?_
    obtain ⟨hs1, hp⟩ := hp
    refine rw_cVi F [_] dc_X9_readItem_84 mv_X9_takesWord ml_RX9_260 (by first | decide | omega) (rc_9 (by first | rfl | assumption | decide | exact r73_k (by assumption) | exact fb_k (by assumption) | exact sb_k (by assumption) | exact tb_k (by assumption) | exact sb_li (by assumption) | exact sb_s (by assumption) | exact tb_n (by assumption) | exact fb_k (sb_f (by assumption)))) rfl rfl (Nat.le_of_ble_eq_true rfl) (ct_X9_takesWord hs1) ?_
    refine rw_if_eq (tgt := 109) F dc_X9_readItem_87 rfl (fun c2 => ?_) (fun c2 => ?_)
    · rw [if_pos c2] at hp
      first | exact lp_X9_readItem_109 F  N N _ _ _ hp (by simpa only [if_pos c2] using hq) | contradiction
    · rw [if_neg c2] at hp
      refine rw_aload_n F dc_X9_readItem_90 rfl ?_
      refine rw_bipush (v := 11) F dc_X9_readItem_91 rfl ?_
      refine rw_aload_n F dc_X9_readItem_93 rfl ?_
      refine rw_iconst (v := 0) F dc_X9_readItem_94 rfl ?_
      refine rw_bipush (v := 23) F dc_X9_readItem_95 rfl ?_
      obtain ⟨hs3, hp⟩ := hp
      refine rw_cVi F [_, _] dc_X9_readItem_97 mv_X9_number ml_RX9_263 (by first | decide | omega) (rc_9 (by first | rfl | assumption | decide | exact r73_k (by assumption) | exact fb_k (by assumption) | exact sb_k (by assumption) | exact tb_k (by assumption) | exact sb_li (by assumption) | exact sb_s (by assumption) | exact tb_n (by assumption) | exact fb_k (sb_f (by assumption)))) rfl rfl (Nat.le_of_ble_eq_true rfl) (ct_X9_number hs3) ?_
      refine rw_iconst (v := 0) F dc_X9_readItem_100 rfl ?_
      refine rw_iconst (v := 0) F dc_X9_readItem_101 rfl ?_
      refine rw_iconst (v := 0) F dc_X9_readItem_102 rfl ?_
      obtain ⟨hs4, hp⟩ := hp
      refine rw_cVv F [_, _, _, _, _] dc_X9_readItem_103 mv_X9_addItem ml_RX9_272 (by first | decide | omega) (rc_9 (by first | rfl | assumption | decide | exact r73_k (by assumption) | exact fb_k (by assumption) | exact sb_k (by assumption) | exact tb_k (by assumption) | exact sb_li (by assumption) | exact sb_s (by assumption) | exact tb_n (by assumption) | exact fb_k (sb_f (by assumption)))) rfl rfl (Nat.le_of_ble_eq_true rfl) (ct_X9_addItem hs4) ?_
      refine rw_goto (tgt := 142) F dc_X9_readItem_106 rfl ?_
      refine rw_vret F dc_X9_readItem_142 rfl ?_
      first | exact (by simpa only [if_neg c2] using hq) | contradiction
theorem lp_X9_readItem_50 {K : tw_K} {Q : Option Value → tw_T → Prop} (F : tw_F K mX9_readItem 9 Q)   (N : Nat)  : ∀ (n : Nat) (x1 : Int32) (x2 : Int32) (τ : tw_T), lo_X9_readItem_50 N n x1 x2 τ → Q none (lg_X9_readItem_50 N n x1 x2 τ) → tw_R K 50 [.ref 190, .int x1, .int x2] [] τ := by
  intro n
  induction n with
  | zero => intro x1 x2 τ hp _; exact False.elim hp
  | succ n ih =>
    intro x1 x2 τ hp hq
    simp only [lo_X9_readItem_50] at hp
    simp only [lg_X9_readItem_50] at hq
    refine rw_aload_n F dc_X9_readItem_50 rfl ?_
    refine rw_ldcwS F 25 dc_X9_readItem_51 rfl ?_
    obtain ⟨hs1, hp⟩ := hp
    refine rw_cVi F [_] dc_X9_readItem_54 mv_X9_takesWord ml_RX9_260 (by first | decide | omega) (rc_9 (by first | rfl | assumption | decide | exact r73_k (by assumption) | exact fb_k (by assumption) | exact sb_k (by assumption) | exact tb_k (by assumption) | exact sb_li (by assumption) | exact sb_s (by assumption) | exact tb_n (by assumption) | exact fb_k (sb_f (by assumption)))) rfl rfl (Nat.le_of_ble_eq_true rfl) (ct_X9_takesWord hs1) ?_
    refine rw_if_eq (tgt := 80) F dc_X9_readItem_57 rfl (fun c2 => ?_) (fun c2 => ?_)
    · rw [if_pos c2] at hp
      first | exact lp_X9_readItem_80 F  N N _ _ _ hp (by simpa only [if_pos c2] using hq) | contradiction
    · rw [if_neg c2] at hp
      refine rw_aload_n F dc_X9_readItem_60 rfl ?_
      refine rw_bipush (v := 10) F dc_X9_readItem_61 rfl ?_
      refine rw_aload_n F dc_X9_readItem_63 rfl ?_
      refine rw_iconst (v := 0) F dc_X9_readItem_64 rfl ?_
      refine rw_sipush (v := 4095) F dc_X9_readItem_65 rfl ?_
      obtain ⟨hs3, hp⟩ := hp
      refine rw_cVi F [_, _] dc_X9_readItem_68 mv_X9_number ml_RX9_263 (by first | decide | omega) (rc_9 (by first | rfl | assumption | decide | exact r73_k (by assumption) | exact fb_k (by assumption) | exact sb_k (by assumption) | exact tb_k (by assumption) | exact sb_li (by assumption) | exact sb_s (by assumption) | exact tb_n (by assumption) | exact fb_k (sb_f (by assumption)))) rfl rfl (Nat.le_of_ble_eq_true rfl) (ct_X9_number hs3) ?_
      refine rw_iconst (v := 0) F dc_X9_readItem_71 rfl ?_
      refine rw_iconst (v := 0) F dc_X9_readItem_72 rfl ?_
      refine rw_iconst (v := 0) F dc_X9_readItem_73 rfl ?_
      obtain ⟨hs4, hp⟩ := hp
      refine rw_cVv F [_, _, _, _, _] dc_X9_readItem_74 mv_X9_addItem ml_RX9_272 (by first | decide | omega) (rc_9 (by first | rfl | assumption | decide | exact r73_k (by assumption) | exact fb_k (by assumption) | exact sb_k (by assumption) | exact tb_k (by assumption) | exact sb_li (by assumption) | exact sb_s (by assumption) | exact tb_n (by assumption) | exact fb_k (sb_f (by assumption)))) rfl rfl (Nat.le_of_ble_eq_true rfl) (ct_X9_addItem hs4) ?_
      refine rw_goto (tgt := 142) F dc_X9_readItem_77 rfl ?_
      refine rw_vret F dc_X9_readItem_142 rfl ?_
      first | exact (by simpa only [if_neg c2] using hq) | contradiction
theorem lp_X9_readItem_38 {K : tw_K} {Q : Option Value → tw_T → Prop} (F : tw_F K mX9_readItem 9 Q)   (N : Nat)  : ∀ (n : Nat) (x1 : Int32) (x2 : Int32) (τ : tw_T), lo_X9_readItem_38 N n x1 x2 τ → Q none (lg_X9_readItem_38 N n x1 x2 τ) → tw_R K 38 [.ref 190, .int x1, .int x2] [] τ := by
  intro n
  induction n with
  | zero => intro x1 x2 τ hp _; exact False.elim hp
  | succ n ih =>
    intro x1 x2 τ hp hq
    simp only [lo_X9_readItem_38] at hp
    simp only [lg_X9_readItem_38] at hq
    refine rw_iload_n F dc_X9_readItem_38 rfl ?_
    refine rw_if_lt (tgt := 50) F dc_X9_readItem_39 rfl (fun c1 => ?_) (fun c1 => ?_)
    · rw [if_pos c1] at hp
      first | exact lp_X9_readItem_50 F  N N _ _ _ hp (by simpa only [if_pos c1] using hq) | contradiction
    · rw [if_neg c1] at hp
      refine rw_aload_n F dc_X9_readItem_42 rfl ?_
      refine rw_iload_n F dc_X9_readItem_43 rfl ?_
      obtain ⟨hs2, hp⟩ := hp
      refine rw_cVv F [_] dc_X9_readItem_44 mv_X9_readShip ml_RX9_276 (by first | decide | omega) (rc_9 (by first | rfl | assumption | decide | exact r73_k (by assumption) | exact fb_k (by assumption) | exact sb_k (by assumption) | exact tb_k (by assumption) | exact sb_li (by assumption) | exact sb_s (by assumption) | exact tb_n (by assumption) | exact fb_k (sb_f (by assumption)))) rfl rfl (Nat.le_of_ble_eq_true rfl) (cr_X9_readShip hs2) ?_
      refine rw_goto (tgt := 142) F dc_X9_readItem_47 rfl ?_
      refine rw_vret F dc_X9_readItem_142 rfl ?_
      first | exact (by simpa only [if_neg c1] using hq) | contradiction
theorem lp_X9_readItem_4 {K : tw_K} {Q : Option Value → tw_T → Prop} (F : tw_F K mX9_readItem 9 Q)   (N : Nat)  : ∀ (n : Nat) (x1 : Int32) (x2 : Int32) (τ : tw_T), lo_X9_readItem_4 N n x1 x2 τ → Q none (lg_X9_readItem_4 N n x1 x2 τ) → tw_R K 4 [.ref 190, .int x1, .int x2] [] τ := by
  intro n
  induction n with
  | zero => intro x1 x2 τ hp _; exact False.elim hp
  | succ n ih =>
    intro x1 x2 τ hp hq
    simp only [lo_X9_readItem_4] at hp
    simp only [lg_X9_readItem_4] at hq
    refine rw_iload_n F dc_X9_readItem_4 rfl ?_
    refine rw_aload_n F dc_X9_readItem_5 rfl ?_
    refine rw_getR F dc_X9_readItem_6 fl_RX9_41 (by first | rfl | assumption | decide | exact r73_k (by assumption) | exact fb_k (by assumption) | exact sb_k (by assumption) | exact tb_k (by assumption) | exact sb_li (by assumption) | exact sb_s (by assumption) | exact tb_n (by assumption) | exact fb_k (sb_f (by assumption))) (by first | rfl | assumption | exact lk6 (by assumption) _ | exact lk2 (by assumption) _ | exact fb_l0 (by assumption) | exact fb_l1 (by assumption) | exact sb_l0 (by assumption) | exact sb_l1 (by assumption) | exact sb_l2 (by assumption) | exact sb_l3 (by assumption) | exact tb_l0 (by assumption) | exact tb_l1 (by assumption) | exact tb_l2 (by assumption) | exact lk2 (sb_li (by assumption)) _ | exact fb_l0 (sb_f (by assumption)) | exact fb_l1 (sb_f (by assumption))) ?_
    refine rw_alen (t := 14) F dc_X9_readItem_9 rfl (by decide) (v := 7) rfl ?_
    refine rw_icmp_ge (tgt := 38) F dc_X9_readItem_10 rfl (fun c1 => ?_) (fun c1 => ?_)
    · rw [if_pos c1] at hp
      first | exact lp_X9_readItem_38 F  N N _ _ _ hp (by simpa only [if_pos c1] using hq) | contradiction
    · rw [if_neg c1] at hp
      refine rw_aload_n F dc_X9_readItem_13 rfl ?_
      refine rw_aload_n F dc_X9_readItem_14 rfl ?_
      refine rw_getR F dc_X9_readItem_15 fl_RX9_41 (by first | rfl | assumption | decide | exact r73_k (by assumption) | exact fb_k (by assumption) | exact sb_k (by assumption) | exact tb_k (by assumption) | exact sb_li (by assumption) | exact sb_s (by assumption) | exact tb_n (by assumption) | exact fb_k (sb_f (by assumption))) (by first | rfl | assumption | exact lk6 (by assumption) _ | exact lk2 (by assumption) _ | exact fb_l0 (by assumption) | exact fb_l1 (by assumption) | exact sb_l0 (by assumption) | exact sb_l1 (by assumption) | exact sb_l2 (by assumption) | exact sb_l3 (by assumption) | exact tb_l0 (by assumption) | exact tb_l1 (by assumption) | exact tb_l2 (by assumption) | exact lk2 (sb_li (by assumption)) _ | exact fb_l0 (sb_f (by assumption)) | exact fb_l1 (sb_f (by assumption))) ?_
      refine rw_iload_n F dc_X9_readItem_18 rfl ?_
      obtain ⟨hs2, hp⟩ := hp
      refine rw_aaName F dc_X9_readItem_19 hs2 (fun hk3 => ?_)
      obtain ⟨hs4, hp⟩ := hp
      refine rw_cVi F [_] dc_X9_readItem_20 mv_X9_isWord ml_RX9_251 (by first | decide | omega) (rc_9 (by first | rfl | assumption | decide | exact r73_k (by assumption) | exact fb_k (by assumption) | exact sb_k (by assumption) | exact tb_k (by assumption) | exact sb_li (by assumption) | exact sb_s (by assumption) | exact tb_n (by assumption) | exact fb_k (sb_f (by assumption)))) rfl rfl (Nat.le_of_ble_eq_true rfl) (cr_X9_isWord hs4) ?_
      refine rw_if_eq (tgt := 30) F dc_X9_readItem_23 rfl (fun c5 => ?_) (fun c5 => ?_)
      · rw [if_pos c5] at hp
        refine rw_iload_n F dc_X9_readItem_30 rfl ?_
        refine rw_istore_n F dc_X9_readItem_31 (by decide) rfl ?_
        refine rw_inc (n1 := 1) F dc_X9_readItem_32 rfl rfl (by decide) rfl ?_
        refine rw_goto (tgt := 4) F dc_X9_readItem_35 rfl ?_
        first | exact ih _ _ _ hp (by simpa only [if_neg c1, if_pos c5] using hq) | contradiction
      · rw [if_neg c5] at hp
        refine rw_iload_n F dc_X9_readItem_26 rfl ?_
        refine rw_goto (tgt := 31) F dc_X9_readItem_27 rfl ?_
        refine rw_istore_n F dc_X9_readItem_31 (by decide) rfl ?_
        refine rw_inc (n1 := 1) F dc_X9_readItem_32 rfl rfl (by decide) rfl ?_
        refine rw_goto (tgt := 4) F dc_X9_readItem_35 rfl ?_
        first | exact ih _ _ _ hp (by simpa only [if_neg c1, if_neg c5] using hq) | contradiction
theorem cr_X9_readItem {E : tw_E}  {N : Nat}   {τ : tw_T} (hp : p_X9_readItem N τ)  : tw_Cv E 9 mX9_readItem [.ref 190] τ (g_X9_readItem N τ) := by
  unfold p_X9_readItem at hp
  refine ct_of (by decide) (by simp [Value.category]) (Nat.le_of_ble_eq_true rfl) (fun K hE F => ?_)
  subst hE
  refine rw_iconst (v := (-1)) F dc_X9_readItem_0 rfl ?_
  refine rw_istore_n F dc_X9_readItem_1 (by decide) rfl ?_
  refine rw_iconst (v := 0) F dc_X9_readItem_2 rfl ?_
  refine rw_istore_n F dc_X9_readItem_3 (by decide) rfl ?_
  first | exact lp_X9_readItem_4 F  N N _ _ _ hp ⟨rfl, by first | (simp only [g_X9_readItem]; done) | rfl | (simp only [g_X9_readItem]; rfl)⟩ | contradiction
def lf_X9_text_111 (N : Nat)  : Nat → Int32 → tw_T → Int32
  | 0, _, _ => 0
  | n + 1, x1, τ => if (τ 190 14) ≤ x1 then (τ 190 14) else (lf_X9_text_111 N n (x1 + 1) (g_X9_isToldSo N (5 * x1) τ))
def lg_X9_text_111 (N : Nat)  : Nat → Int32 → tw_T → tw_T
  | 0, _, τ => τ
  | n + 1, x1, τ => if (τ 190 14) ≤ x1 then τ else (lg_X9_text_111 N n (x1 + 1) (g_X9_isToldSo N (5 * x1) τ))
def lo_X9_text_111 (N : Nat)  : Nat → Int32 → tw_T → Prop
  | 0, _, _ => False
  | n + 1, x1, τ => if (τ 190 14) ≤ x1 then True else (p_X9_isToldSo N (5 * x1) τ ∧ (lo_X9_text_111 N n (x1 + 1) (g_X9_isToldSo N (5 * x1) τ)))
def lf_X9_text_90 (N : Nat)  : Nat → tw_T → Int32
  | 0, _ => 0
  | n + 1, τ => if ((tw_sr τ 190 (upd (τ 190) 6 0)) 190 11) = (0 : Int32) then (lf_X9_text_111 N N 0 (tw_sr τ 190 (upd (τ 190) 6 0))) else (((-1)) - ((tw_sr τ 190 (upd (τ 190) 6 0)) 190 7))
def lg_X9_text_90 (N : Nat)  : Nat → tw_T → tw_T
  | 0, τ => τ
  | n + 1, τ => if ((tw_sr τ 190 (upd (τ 190) 6 0)) 190 11) = (0 : Int32) then (lg_X9_text_111 N N 0 (tw_sr τ 190 (upd (τ 190) 6 0))) else (tw_sr τ 190 (upd (τ 190) 6 0))
def lo_X9_text_90 (N : Nat)  : Nat → tw_T → Prop
  | 0, _ => False
  | n + 1, τ => if ((tw_sr τ 190 (upd (τ 190) 6 0)) 190 11) = (0 : Int32) then (lo_X9_text_111 N N 0 (tw_sr τ 190 (upd (τ 190) 6 0))) else True
def lf_X9_text_74 (N : Nat)  : Nat → tw_T → Int32
  | 0, _ => 0
  | n + 1, τ => if (τ 190 9) = (0 : Int32) then (lf_X9_text_90 N N (g_X9_must N 1 τ)) else (lf_X9_text_90 N N (g_X9_must N 0 τ))
def lg_X9_text_74 (N : Nat)  : Nat → tw_T → tw_T
  | 0, τ => τ
  | n + 1, τ => if (τ 190 9) = (0 : Int32) then (lg_X9_text_90 N N (g_X9_must N 1 τ)) else (lg_X9_text_90 N N (g_X9_must N 0 τ))
def lo_X9_text_74 (N : Nat)  : Nat → tw_T → Prop
  | 0, _ => False
  | n + 1, τ => if (τ 190 9) = (0 : Int32) then (p_X9_must N 1 τ ∧ (lo_X9_text_90 N N (g_X9_must N 1 τ))) else (p_X9_must N 0 τ ∧ (lo_X9_text_90 N N (g_X9_must N 0 τ)))
def lf_X9_text_33 (N : Nat)  : Nat → tw_T → Int32
  | 0, _ => 0
  | n + 1, τ => if (τ 190 11) = (0 : Int32) then (if (τ 190 9) = (3 : Int32) then (if (τ 195 (τ 190 7).toNatClampNeg) = (59 : Int32) then (lf_X9_text_33 N n (g_X9_readItem N (g_X9_must N 1 τ))) else (lf_X9_text_74 N N τ)) else (lf_X9_text_74 N N τ)) else (lf_X9_text_74 N N τ)
def lg_X9_text_33 (N : Nat)  : Nat → tw_T → tw_T
  | 0, τ => τ
  | n + 1, τ => if (τ 190 11) = (0 : Int32) then (if (τ 190 9) = (3 : Int32) then (if (τ 195 (τ 190 7).toNatClampNeg) = (59 : Int32) then (lg_X9_text_33 N n (g_X9_readItem N (g_X9_must N 1 τ))) else (lg_X9_text_74 N N τ)) else (lg_X9_text_74 N N τ)) else (lg_X9_text_74 N N τ)
def lo_X9_text_33 (N : Nat)  : Nat → tw_T → Prop
  | 0, _ => False
  | n + 1, τ => if (τ 190 11) = (0 : Int32) then (if (τ 190 9) = (3 : Int32) then (vp_in (τ 190 7) 120 ∧ (if (τ 195 (τ 190 7).toNatClampNeg) = (59 : Int32) then (p_X9_must N 1 τ ∧ (p_X9_readItem N (g_X9_must N 1 τ) ∧ (lo_X9_text_33 N n (g_X9_readItem N (g_X9_must N 1 τ))))) else (lo_X9_text_74 N N τ))) else (lo_X9_text_74 N N τ)) else (lo_X9_text_74 N N τ)
def f_X9_text (N : Nat)   (τ : tw_T) : Int32 := lf_X9_text_33 N N (g_X9_readItem N (g_X9_token N (tw_sr (tw_sr (tw_sr (tw_sr τ 190 (upd (τ 190) 8 0)) 190 (upd ((tw_sr τ 190 (upd (τ 190) 8 0)) 190) 11 0)) 190 (upd ((tw_sr (tw_sr τ 190 (upd (τ 190) 8 0)) 190 (upd ((tw_sr τ 190 (upd (τ 190) 8 0)) 190) 11 0)) 190) 14 0)) 190 (upd ((tw_sr (tw_sr (tw_sr τ 190 (upd (τ 190) 8 0)) 190 (upd ((tw_sr τ 190 (upd (τ 190) 8 0)) 190) 11 0)) 190 (upd ((tw_sr (tw_sr τ 190 (upd (τ 190) 8 0)) 190 (upd ((tw_sr τ 190 (upd (τ 190) 8 0)) 190) 11 0)) 190) 14 0)) 190) 15 ((tw_sr (tw_sr (tw_sr τ 190 (upd (τ 190) 8 0)) 190 (upd ((tw_sr τ 190 (upd (τ 190) 8 0)) 190) 11 0)) 190 (upd ((tw_sr (tw_sr τ 190 (upd (τ 190) 8 0)) 190 (upd ((tw_sr τ 190 (upd (τ 190) 8 0)) 190) 11 0)) 190) 14 0)) 191 1)))))
def g_X9_text (N : Nat)   (τ : tw_T) : tw_T := lg_X9_text_33 N N (g_X9_readItem N (g_X9_token N (tw_sr (tw_sr (tw_sr (tw_sr τ 190 (upd (τ 190) 8 0)) 190 (upd ((tw_sr τ 190 (upd (τ 190) 8 0)) 190) 11 0)) 190 (upd ((tw_sr (tw_sr τ 190 (upd (τ 190) 8 0)) 190 (upd ((tw_sr τ 190 (upd (τ 190) 8 0)) 190) 11 0)) 190) 14 0)) 190 (upd ((tw_sr (tw_sr (tw_sr τ 190 (upd (τ 190) 8 0)) 190 (upd ((tw_sr τ 190 (upd (τ 190) 8 0)) 190) 11 0)) 190 (upd ((tw_sr (tw_sr τ 190 (upd (τ 190) 8 0)) 190 (upd ((tw_sr τ 190 (upd (τ 190) 8 0)) 190) 11 0)) 190) 14 0)) 190) 15 ((tw_sr (tw_sr (tw_sr τ 190 (upd (τ 190) 8 0)) 190 (upd ((tw_sr τ 190 (upd (τ 190) 8 0)) 190) 11 0)) 190 (upd ((tw_sr (tw_sr τ 190 (upd (τ 190) 8 0)) 190 (upd ((tw_sr τ 190 (upd (τ 190) 8 0)) 190) 11 0)) 190) 14 0)) 191 1)))))
def p_X9_text (N : Nat)   (τ : tw_T) : Prop := p_X9_token N (tw_sr (tw_sr (tw_sr (tw_sr τ 190 (upd (τ 190) 8 0)) 190 (upd ((tw_sr τ 190 (upd (τ 190) 8 0)) 190) 11 0)) 190 (upd ((tw_sr (tw_sr τ 190 (upd (τ 190) 8 0)) 190 (upd ((tw_sr τ 190 (upd (τ 190) 8 0)) 190) 11 0)) 190) 14 0)) 190 (upd ((tw_sr (tw_sr (tw_sr τ 190 (upd (τ 190) 8 0)) 190 (upd ((tw_sr τ 190 (upd (τ 190) 8 0)) 190) 11 0)) 190 (upd ((tw_sr (tw_sr τ 190 (upd (τ 190) 8 0)) 190 (upd ((tw_sr τ 190 (upd (τ 190) 8 0)) 190) 11 0)) 190) 14 0)) 190) 15 ((tw_sr (tw_sr (tw_sr τ 190 (upd (τ 190) 8 0)) 190 (upd ((tw_sr τ 190 (upd (τ 190) 8 0)) 190) 11 0)) 190 (upd ((tw_sr (tw_sr τ 190 (upd (τ 190) 8 0)) 190 (upd ((tw_sr τ 190 (upd (τ 190) 8 0)) 190) 11 0)) 190) 14 0)) 191 1))) ∧ (p_X9_readItem N (g_X9_token N (tw_sr (tw_sr (tw_sr (tw_sr τ 190 (upd (τ 190) 8 0)) 190 (upd ((tw_sr τ 190 (upd (τ 190) 8 0)) 190) 11 0)) 190 (upd ((tw_sr (tw_sr τ 190 (upd (τ 190) 8 0)) 190 (upd ((tw_sr τ 190 (upd (τ 190) 8 0)) 190) 11 0)) 190) 14 0)) 190 (upd ((tw_sr (tw_sr (tw_sr τ 190 (upd (τ 190) 8 0)) 190 (upd ((tw_sr τ 190 (upd (τ 190) 8 0)) 190) 11 0)) 190 (upd ((tw_sr (tw_sr τ 190 (upd (τ 190) 8 0)) 190 (upd ((tw_sr τ 190 (upd (τ 190) 8 0)) 190) 11 0)) 190) 14 0)) 190) 15 ((tw_sr (tw_sr (tw_sr τ 190 (upd (τ 190) 8 0)) 190 (upd ((tw_sr τ 190 (upd (τ 190) 8 0)) 190) 11 0)) 190 (upd ((tw_sr (tw_sr τ 190 (upd (τ 190) 8 0)) 190 (upd ((tw_sr τ 190 (upd (τ 190) 8 0)) 190) 11 0)) 190) 14 0)) 191 1)))) ∧ (lo_X9_text_33 N N (g_X9_readItem N (g_X9_token N (tw_sr (tw_sr (tw_sr (tw_sr τ 190 (upd (τ 190) 8 0)) 190 (upd ((tw_sr τ 190 (upd (τ 190) 8 0)) 190) 11 0)) 190 (upd ((tw_sr (tw_sr τ 190 (upd (τ 190) 8 0)) 190 (upd ((tw_sr τ 190 (upd (τ 190) 8 0)) 190) 11 0)) 190) 14 0)) 190 (upd ((tw_sr (tw_sr (tw_sr τ 190 (upd (τ 190) 8 0)) 190 (upd ((tw_sr τ 190 (upd (τ 190) 8 0)) 190) 11 0)) 190 (upd ((tw_sr (tw_sr τ 190 (upd (τ 190) 8 0)) 190 (upd ((tw_sr τ 190 (upd (τ 190) 8 0)) 190) 11 0)) 190) 14 0)) 190) 15 ((tw_sr (tw_sr (tw_sr τ 190 (upd (τ 190) 8 0)) 190 (upd ((tw_sr τ 190 (upd (τ 190) 8 0)) 190) 11 0)) 190 (upd ((tw_sr (tw_sr τ 190 (upd (τ 190) 8 0)) 190 (upd ((tw_sr τ 190 (upd (τ 190) 8 0)) 190) 11 0)) 190) 14 0)) 191 1)))))))
theorem lp_X9_text_111 {K : tw_K} {Q : Option Value → tw_T → Prop} (F : tw_F K mX9_text 10 Q)   (N : Nat)  : ∀ (n : Nat) (x1 : Int32) (τ : tw_T), lo_X9_text_111 N n x1 τ → Q (some (.int (lf_X9_text_111 N n x1 τ))) (lg_X9_text_111 N n x1 τ) → tw_R K 111 [.ref 190, .int x1] [] τ := by
  intro n
  induction n with
  | zero => intro x1 τ hp _; exact False.elim hp
  | succ n ih =>
    intro x1 τ hp hq
    simp only [lo_X9_text_111] at hp
    simp only [lf_X9_text_111, lg_X9_text_111] at hq
    refine rw_iload_n F dc_X9_text_111 rfl ?_
    refine rw_aload_n F dc_X9_text_112 rfl ?_
    refine rw_getI F dc_X9_text_113 fl_RX9_248 (by first | rfl | assumption | decide | exact r73_k (by assumption) | exact fb_k (by assumption) | exact sb_k (by assumption) | exact tb_k (by assumption) | exact sb_li (by assumption) | exact sb_s (by assumption) | exact tb_n (by assumption) | exact fb_k (sb_f (by assumption))) (by first | rfl | assumption | exact lk6 (by assumption) _ | exact lk2 (by assumption) _ | exact fb_l0 (by assumption) | exact fb_l1 (by assumption) | exact sb_l0 (by assumption) | exact sb_l1 (by assumption) | exact sb_l2 (by assumption) | exact sb_l3 (by assumption) | exact tb_l0 (by assumption) | exact tb_l1 (by assumption) | exact tb_l2 (by assumption) | exact lk2 (sb_li (by assumption)) _ | exact fb_l0 (sb_f (by assumption)) | exact fb_l1 (sb_f (by assumption))) ?_
    refine rw_icmp_ge (tgt := 132) F dc_X9_text_116 rfl (fun c1 => ?_) (fun c1 => ?_)
    · rw [if_pos c1] at hp
      refine rw_aload_n F dc_X9_text_132 rfl ?_
      refine rw_getI F dc_X9_text_133 fl_RX9_248 (by first | rfl | assumption | decide | exact r73_k (by assumption) | exact fb_k (by assumption) | exact sb_k (by assumption) | exact tb_k (by assumption) | exact sb_li (by assumption) | exact sb_s (by assumption) | exact tb_n (by assumption) | exact fb_k (sb_f (by assumption))) (by first | rfl | assumption | exact lk6 (by assumption) _ | exact lk2 (by assumption) _ | exact fb_l0 (by assumption) | exact fb_l1 (by assumption) | exact sb_l0 (by assumption) | exact sb_l1 (by assumption) | exact sb_l2 (by assumption) | exact sb_l3 (by assumption) | exact tb_l0 (by assumption) | exact tb_l1 (by assumption) | exact tb_l2 (by assumption) | exact lk2 (sb_li (by assumption)) _ | exact fb_l0 (sb_f (by assumption)) | exact fb_l1 (sb_f (by assumption))) ?_
      refine rw_iret F dc_X9_text_136 rfl rfl ?_
      first | exact (by simpa only [if_pos c1] using hq) | contradiction
    · rw [if_neg c1] at hp
      refine rw_aload_n F dc_X9_text_119 rfl ?_
      refine rw_iconst (v := 5) F dc_X9_text_120 rfl ?_
      refine rw_iload_n F dc_X9_text_121 rfl ?_
      refine rw_imul F dc_X9_text_122 ?_
      obtain ⟨hs2, hp⟩ := hp
      refine rw_cVv F [_] dc_X9_text_123 mv_X9_isToldSo ml_RX9_288 (by first | decide | omega) (rc_9 (by first | rfl | assumption | decide | exact r73_k (by assumption) | exact fb_k (by assumption) | exact sb_k (by assumption) | exact tb_k (by assumption) | exact sb_li (by assumption) | exact sb_s (by assumption) | exact tb_n (by assumption) | exact fb_k (sb_f (by assumption)))) rfl rfl (Nat.le_of_ble_eq_true rfl) (ct_X9_isToldSo hs2) ?_
      refine rw_inc (n1 := 1) F dc_X9_text_126 rfl rfl (by decide) rfl ?_
      refine rw_goto (tgt := 111) F dc_X9_text_129 rfl ?_
      first | exact ih _ _ hp (by simpa only [if_neg c1] using hq) | contradiction
theorem lp_X9_text_90 {K : tw_K} {Q : Option Value → tw_T → Prop} (F : tw_F K mX9_text 10 Q)   (N : Nat)  : ∀ (n : Nat)  (τ : tw_T), lo_X9_text_90 N n τ → Q (some (.int (lf_X9_text_90 N n τ))) (lg_X9_text_90 N n τ) → tw_R K 90 [.ref 190, .null] [] τ := by
  intro n
  induction n with
  | zero => intro  τ hp _; exact False.elim hp
  | succ n ih =>
    intro  τ hp hq
    simp only [lo_X9_text_90] at hp
    simp only [lf_X9_text_90, lg_X9_text_90] at hq
    refine rw_aload_n F dc_X9_text_90 rfl ?_
    refine rw_iconst (v := 0) F dc_X9_text_91 rfl ?_
    refine rw_put F dc_X9_text_92 pf_RX9_211 (by first | rfl | assumption | decide | exact r73_k (by assumption) | exact fb_k (by assumption) | exact sb_k (by assumption) | exact tb_k (by assumption) | exact sb_li (by assumption) | exact sb_s (by assumption) | exact tb_n (by assumption) | exact fb_k (sb_f (by assumption))) (by first | rfl | assumption | exact lk6 (by assumption) _ | exact lk2 (by assumption) _ | exact fb_l0 (by assumption) | exact fb_l1 (by assumption) | exact sb_l0 (by assumption) | exact sb_l1 (by assumption) | exact sb_l2 (by assumption) | exact sb_l3 (by assumption) | exact tb_l0 (by assumption) | exact tb_l1 (by assumption) | exact tb_l2 (by assumption) | exact lk2 (sb_li (by assumption)) _ | exact fb_l0 (sb_f (by assumption)) | exact fb_l1 (sb_f (by assumption))) rfl rfl ?_
    refine rw_aload_n F dc_X9_text_95 rfl ?_
    refine rw_getI F dc_X9_text_96 fl_RX9_237 (by first | rfl | assumption | decide | exact r73_k (by assumption) | exact fb_k (by assumption) | exact sb_k (by assumption) | exact tb_k (by assumption) | exact sb_li (by assumption) | exact sb_s (by assumption) | exact tb_n (by assumption) | exact fb_k (sb_f (by assumption))) (by first | rfl | assumption | exact lk6 (by assumption) _ | exact lk2 (by assumption) _ | exact fb_l0 (by assumption) | exact fb_l1 (by assumption) | exact sb_l0 (by assumption) | exact sb_l1 (by assumption) | exact sb_l2 (by assumption) | exact sb_l3 (by assumption) | exact tb_l0 (by assumption) | exact tb_l1 (by assumption) | exact tb_l2 (by assumption) | exact lk2 (sb_li (by assumption)) _ | exact fb_l0 (sb_f (by assumption)) | exact fb_l1 (sb_f (by assumption))) ?_
    refine rw_if_eq (tgt := 109) F dc_X9_text_99 rfl (fun c1 => ?_) (fun c1 => ?_)
    · rw [if_pos c1] at hp
      refine rw_iconst (v := 0) F dc_X9_text_109 rfl ?_
      refine rw_istore_n F dc_X9_text_110 (by decide) rfl ?_
      first | exact lp_X9_text_111 F  N N _ _ hp (by simpa only [if_pos c1] using hq) | contradiction
    · rw [if_neg c1] at hp
      refine rw_iconst (v := (-1)) F dc_X9_text_102 rfl ?_
      refine rw_aload_n F dc_X9_text_103 rfl ?_
      refine rw_getI F dc_X9_text_104 fl_RX9_218 (by first | rfl | assumption | decide | exact r73_k (by assumption) | exact fb_k (by assumption) | exact sb_k (by assumption) | exact tb_k (by assumption) | exact sb_li (by assumption) | exact sb_s (by assumption) | exact tb_n (by assumption) | exact fb_k (sb_f (by assumption))) (by first | rfl | assumption | exact lk6 (by assumption) _ | exact lk2 (by assumption) _ | exact fb_l0 (by assumption) | exact fb_l1 (by assumption) | exact sb_l0 (by assumption) | exact sb_l1 (by assumption) | exact sb_l2 (by assumption) | exact sb_l3 (by assumption) | exact tb_l0 (by assumption) | exact tb_l1 (by assumption) | exact tb_l2 (by assumption) | exact lk2 (sb_li (by assumption)) _ | exact fb_l0 (sb_f (by assumption)) | exact fb_l1 (sb_f (by assumption))) ?_
      refine rw_isub F dc_X9_text_107 ?_
      refine rw_iret F dc_X9_text_108 rfl rfl ?_
      first | exact (by simpa only [if_neg c1] using hq) | contradiction
theorem lp_X9_text_74 {K : tw_K} {Q : Option Value → tw_T → Prop} (F : tw_F K mX9_text 10 Q)   (N : Nat)  : ∀ (n : Nat)  (τ : tw_T), lo_X9_text_74 N n τ → Q (some (.int (lf_X9_text_74 N n τ))) (lg_X9_text_74 N n τ) → tw_R K 74 [.ref 190, .null] [] τ := by
  intro n
  induction n with
  | zero => intro  τ hp _; exact False.elim hp
  | succ n ih =>
    intro  τ hp hq
    simp only [lo_X9_text_74] at hp
    simp only [lf_X9_text_74, lg_X9_text_74] at hq
    refine rw_aload_n F dc_X9_text_74 rfl ?_
    refine rw_aload_n F dc_X9_text_75 rfl ?_
    refine rw_getI F dc_X9_text_76 fl_RX9_227 (by first | rfl | assumption | decide | exact r73_k (by assumption) | exact fb_k (by assumption) | exact sb_k (by assumption) | exact tb_k (by assumption) | exact sb_li (by assumption) | exact sb_s (by assumption) | exact tb_n (by assumption) | exact fb_k (sb_f (by assumption))) (by first | rfl | assumption | exact lk6 (by assumption) _ | exact lk2 (by assumption) _ | exact fb_l0 (by assumption) | exact fb_l1 (by assumption) | exact sb_l0 (by assumption) | exact sb_l1 (by assumption) | exact sb_l2 (by assumption) | exact sb_l3 (by assumption) | exact tb_l0 (by assumption) | exact tb_l1 (by assumption) | exact tb_l2 (by assumption) | exact lk2 (sb_li (by assumption)) _ | exact fb_l0 (sb_f (by assumption)) | exact fb_l1 (sb_f (by assumption))) ?_
    refine rw_if_ne (tgt := 86) F dc_X9_text_79 rfl (fun c1 => ?_) (fun c1 => ?_)
    · rw [if_neg c1] at hp
      refine rw_iconst (v := 0) F dc_X9_text_86 rfl ?_
      obtain ⟨hs2, hp⟩ := hp
      refine rw_cVv F [_] dc_X9_text_87 mv_X9_must ml_RX9_244 (by first | decide | omega) (rc_9 (by first | rfl | assumption | decide | exact r73_k (by assumption) | exact fb_k (by assumption) | exact sb_k (by assumption) | exact tb_k (by assumption) | exact sb_li (by assumption) | exact sb_s (by assumption) | exact tb_n (by assumption) | exact fb_k (sb_f (by assumption)))) rfl rfl (Nat.le_of_ble_eq_true rfl) (ct_X9_must hs2) ?_
      first | exact lp_X9_text_90 F  N N  _ hp (by simpa only [if_neg c1] using hq) | contradiction
    · rw [if_pos c1] at hp
      refine rw_iconst (v := 1) F dc_X9_text_82 rfl ?_
      refine rw_goto (tgt := 87) F dc_X9_text_83 rfl ?_
      obtain ⟨hs3, hp⟩ := hp
      refine rw_cVv F [_] dc_X9_text_87 mv_X9_must ml_RX9_244 (by first | decide | omega) (rc_9 (by first | rfl | assumption | decide | exact r73_k (by assumption) | exact fb_k (by assumption) | exact sb_k (by assumption) | exact tb_k (by assumption) | exact sb_li (by assumption) | exact sb_s (by assumption) | exact tb_n (by assumption) | exact fb_k (sb_f (by assumption)))) rfl rfl (Nat.le_of_ble_eq_true rfl) (ct_X9_must hs3) ?_
      first | exact lp_X9_text_90 F  N N  _ hp (by simpa only [if_pos c1] using hq) | contradiction
theorem lp_X9_text_33 {K : tw_K} {Q : Option Value → tw_T → Prop} (F : tw_F K mX9_text 10 Q)   (N : Nat)  : ∀ (n : Nat)  (τ : tw_T), lo_X9_text_33 N n τ → Q (some (.int (lf_X9_text_33 N n τ))) (lg_X9_text_33 N n τ) → tw_R K 33 [.ref 190, .null] [] τ := by
  intro n
  induction n with
  | zero => intro  τ hp _; exact False.elim hp
  | succ n ih =>
    intro  τ hp hq
    simp only [lo_X9_text_33] at hp
    simp only [lf_X9_text_33, lg_X9_text_33] at hq
    refine rw_aload_n F dc_X9_text_33 rfl ?_
    refine rw_getI F dc_X9_text_34 fl_RX9_237 (by first | rfl | assumption | decide | exact r73_k (by assumption) | exact fb_k (by assumption) | exact sb_k (by assumption) | exact tb_k (by assumption) | exact sb_li (by assumption) | exact sb_s (by assumption) | exact tb_n (by assumption) | exact fb_k (sb_f (by assumption))) (by first | rfl | assumption | exact lk6 (by assumption) _ | exact lk2 (by assumption) _ | exact fb_l0 (by assumption) | exact fb_l1 (by assumption) | exact sb_l0 (by assumption) | exact sb_l1 (by assumption) | exact sb_l2 (by assumption) | exact sb_l3 (by assumption) | exact tb_l0 (by assumption) | exact tb_l1 (by assumption) | exact tb_l2 (by assumption) | exact lk2 (sb_li (by assumption)) _ | exact fb_l0 (sb_f (by assumption)) | exact fb_l1 (sb_f (by assumption))) ?_
    refine rw_if_ne (tgt := 74) F dc_X9_text_37 rfl (fun c1 => ?_) (fun c1 => ?_)
    · rw [if_neg c1] at hp
      first | exact lp_X9_text_74 F  N N  _ hp (by simpa only [if_neg c1] using hq) | contradiction
    · rw [if_pos c1] at hp
      refine rw_aload_n F dc_X9_text_40 rfl ?_
      refine rw_getI F dc_X9_text_41 fl_RX9_227 (by first | rfl | assumption | decide | exact r73_k (by assumption) | exact fb_k (by assumption) | exact sb_k (by assumption) | exact tb_k (by assumption) | exact sb_li (by assumption) | exact sb_s (by assumption) | exact tb_n (by assumption) | exact fb_k (sb_f (by assumption))) (by first | rfl | assumption | exact lk6 (by assumption) _ | exact lk2 (by assumption) _ | exact fb_l0 (by assumption) | exact fb_l1 (by assumption) | exact sb_l0 (by assumption) | exact sb_l1 (by assumption) | exact sb_l2 (by assumption) | exact sb_l3 (by assumption) | exact tb_l0 (by assumption) | exact tb_l1 (by assumption) | exact tb_l2 (by assumption) | exact lk2 (sb_li (by assumption)) _ | exact fb_l0 (sb_f (by assumption)) | exact fb_l1 (sb_f (by assumption))) ?_
      refine rw_iconst (v := 3) F dc_X9_text_44 rfl ?_
      refine rw_icmp_ne (tgt := 74) F dc_X9_text_45 rfl (fun c2 => ?_) (fun c2 => ?_)
      · rw [if_neg c2] at hp
        first | exact lp_X9_text_74 F  N N  _ hp (by simpa only [if_pos c1, if_neg c2] using hq) | contradiction
      · rw [if_pos c2] at hp
        refine rw_aload_n F dc_X9_text_48 rfl ?_
        refine rw_getR F dc_X9_text_49 fl_RX9_22 (by first | rfl | assumption | decide | exact r73_k (by assumption) | exact fb_k (by assumption) | exact sb_k (by assumption) | exact tb_k (by assumption) | exact sb_li (by assumption) | exact sb_s (by assumption) | exact tb_n (by assumption) | exact fb_k (sb_f (by assumption))) (by first | rfl | assumption | exact lk6 (by assumption) _ | exact lk2 (by assumption) _ | exact fb_l0 (by assumption) | exact fb_l1 (by assumption) | exact sb_l0 (by assumption) | exact sb_l1 (by assumption) | exact sb_l2 (by assumption) | exact sb_l3 (by assumption) | exact tb_l0 (by assumption) | exact tb_l1 (by assumption) | exact tb_l2 (by assumption) | exact lk2 (sb_li (by assumption)) _ | exact fb_l0 (sb_f (by assumption)) | exact fb_l1 (sb_f (by assumption))) ?_
        refine rw_aload_n F dc_X9_text_52 rfl ?_
        refine rw_getI F dc_X9_text_53 fl_RX9_218 (by first | rfl | assumption | decide | exact r73_k (by assumption) | exact fb_k (by assumption) | exact sb_k (by assumption) | exact tb_k (by assumption) | exact sb_li (by assumption) | exact sb_s (by assumption) | exact tb_n (by assumption) | exact fb_k (sb_f (by assumption))) (by first | rfl | assumption | exact lk6 (by assumption) _ | exact lk2 (by assumption) _ | exact fb_l0 (by assumption) | exact fb_l1 (by assumption) | exact sb_l0 (by assumption) | exact sb_l1 (by assumption) | exact sb_l2 (by assumption) | exact sb_l3 (by assumption) | exact tb_l0 (by assumption) | exact tb_l1 (by assumption) | exact tb_l2 (by assumption) | exact lk2 (sb_li (by assumption)) _ | exact fb_l0 (sb_f (by assumption)) | exact fb_l1 (sb_f (by assumption))) ?_
        obtain ⟨hs3, hp⟩ := hp
        refine rw_iaC F dc_X9_text_56 (by first | rfl | assumption | decide | exact r73_k (by assumption) | exact fb_k (by assumption) | exact sb_k (by assumption) | exact tb_k (by assumption) | exact sb_li (by assumption) | exact sb_s (by assumption) | exact tb_n (by assumption) | exact fb_k (sb_f (by assumption))) (by first | rfl | exact r73_n (by assumption) | exact sb_sn (by assumption) | exact tb_nn (by assumption)) hs3 ?_
        refine rw_bipush (v := 59) F dc_X9_text_57 rfl ?_
        refine rw_icmp_ne (tgt := 74) F dc_X9_text_59 rfl (fun c4 => ?_) (fun c4 => ?_)
        · rw [if_neg c4] at hp
          first | exact lp_X9_text_74 F  N N  _ hp (by simpa only [if_pos c1, if_pos c2, if_neg c4] using hq) | contradiction
        · rw [if_pos c4] at hp
          refine rw_aload_n F dc_X9_text_62 rfl ?_
          refine rw_iconst (v := 1) F dc_X9_text_63 rfl ?_
          obtain ⟨hs5, hp⟩ := hp
          refine rw_cVv F [_] dc_X9_text_64 mv_X9_must ml_RX9_244 (by first | decide | omega) (rc_9 (by first | rfl | assumption | decide | exact r73_k (by assumption) | exact fb_k (by assumption) | exact sb_k (by assumption) | exact tb_k (by assumption) | exact sb_li (by assumption) | exact sb_s (by assumption) | exact tb_n (by assumption) | exact fb_k (sb_f (by assumption)))) rfl rfl (Nat.le_of_ble_eq_true rfl) (ct_X9_must hs5) ?_
          refine rw_aload_n F dc_X9_text_67 rfl ?_
          obtain ⟨hs6, hp⟩ := hp
          refine rw_cVv F [] dc_X9_text_68 mv_X9_readItem ml_RX9_285 (by first | decide | omega) (rc_9 (by first | rfl | assumption | decide | exact r73_k (by assumption) | exact fb_k (by assumption) | exact sb_k (by assumption) | exact tb_k (by assumption) | exact sb_li (by assumption) | exact sb_s (by assumption) | exact tb_n (by assumption) | exact fb_k (sb_f (by assumption)))) rfl rfl (Nat.le_of_ble_eq_true rfl) (cr_X9_readItem hs6) ?_
          refine rw_goto (tgt := 33) F dc_X9_text_71 rfl ?_
          first | exact ih  _ hp (by simpa only [if_pos c1, if_pos c2, if_pos c4] using hq) | contradiction
theorem cr_X9_text {E : tw_E}  {N : Nat}   {τ : tw_T} (hp : p_X9_text N τ)  : tw_Ci E 10 mX9_text [.ref 190] τ (f_X9_text N τ) (g_X9_text N τ) := by
  unfold p_X9_text at hp
  refine ct_of (by decide) (by simp [Value.category]) (Nat.le_of_ble_eq_true rfl) (fun K hE F => ?_)
  subst hE
  refine rw_aload_n F dc_X9_text_0 rfl ?_
  refine rw_iconst (v := 0) F dc_X9_text_1 rfl ?_
  refine rw_put F dc_X9_text_2 pf_RX9_215 (by first | rfl | assumption | decide | exact r73_k (by assumption) | exact fb_k (by assumption) | exact sb_k (by assumption) | exact tb_k (by assumption) | exact sb_li (by assumption) | exact sb_s (by assumption) | exact tb_n (by assumption) | exact fb_k (sb_f (by assumption))) (by first | rfl | assumption | exact lk6 (by assumption) _ | exact lk2 (by assumption) _ | exact fb_l0 (by assumption) | exact fb_l1 (by assumption) | exact sb_l0 (by assumption) | exact sb_l1 (by assumption) | exact sb_l2 (by assumption) | exact sb_l3 (by assumption) | exact tb_l0 (by assumption) | exact tb_l1 (by assumption) | exact tb_l2 (by assumption) | exact lk2 (sb_li (by assumption)) _ | exact fb_l0 (sb_f (by assumption)) | exact fb_l1 (sb_f (by assumption))) rfl rfl ?_
  refine rw_aload_n F dc_X9_text_5 rfl ?_
  refine rw_iconst (v := 0) F dc_X9_text_6 rfl ?_
  refine rw_put F dc_X9_text_7 pf_RX9_237 (by first | rfl | assumption | decide | exact r73_k (by assumption) | exact fb_k (by assumption) | exact sb_k (by assumption) | exact tb_k (by assumption) | exact sb_li (by assumption) | exact sb_s (by assumption) | exact tb_n (by assumption) | exact fb_k (sb_f (by assumption))) (by first | rfl | assumption | exact lk6 (by assumption) _ | exact lk2 (by assumption) _ | exact fb_l0 (by assumption) | exact fb_l1 (by assumption) | exact sb_l0 (by assumption) | exact sb_l1 (by assumption) | exact sb_l2 (by assumption) | exact sb_l3 (by assumption) | exact tb_l0 (by assumption) | exact tb_l1 (by assumption) | exact tb_l2 (by assumption) | exact lk2 (sb_li (by assumption)) _ | exact fb_l0 (sb_f (by assumption)) | exact fb_l1 (sb_f (by assumption))) rfl rfl ?_
  refine rw_aload_n F dc_X9_text_10 rfl ?_
  refine rw_iconst (v := 0) F dc_X9_text_11 rfl ?_
  refine rw_put F dc_X9_text_12 pf_RX9_248 (by first | rfl | assumption | decide | exact r73_k (by assumption) | exact fb_k (by assumption) | exact sb_k (by assumption) | exact tb_k (by assumption) | exact sb_li (by assumption) | exact sb_s (by assumption) | exact tb_n (by assumption) | exact fb_k (sb_f (by assumption))) (by first | rfl | assumption | exact lk6 (by assumption) _ | exact lk2 (by assumption) _ | exact fb_l0 (by assumption) | exact fb_l1 (by assumption) | exact sb_l0 (by assumption) | exact sb_l1 (by assumption) | exact sb_l2 (by assumption) | exact sb_l3 (by assumption) | exact tb_l0 (by assumption) | exact tb_l1 (by assumption) | exact tb_l2 (by assumption) | exact lk2 (sb_li (by assumption)) _ | exact fb_l0 (sb_f (by assumption)) | exact fb_l1 (sb_f (by assumption))) rfl rfl ?_
  refine rw_aload_n F dc_X9_text_15 rfl ?_
  refine rw_aload_n F dc_X9_text_16 rfl ?_
  refine rw_getR F dc_X9_text_17 fl_RX9_9 (by first | rfl | assumption | decide | exact r73_k (by assumption) | exact fb_k (by assumption) | exact sb_k (by assumption) | exact tb_k (by assumption) | exact sb_li (by assumption) | exact sb_s (by assumption) | exact tb_n (by assumption) | exact fb_k (sb_f (by assumption))) (by first | rfl | assumption | exact lk6 (by assumption) _ | exact lk2 (by assumption) _ | exact fb_l0 (by assumption) | exact fb_l1 (by assumption) | exact sb_l0 (by assumption) | exact sb_l1 (by assumption) | exact sb_l2 (by assumption) | exact sb_l3 (by assumption) | exact tb_l0 (by assumption) | exact tb_l1 (by assumption) | exact tb_l2 (by assumption) | exact lk2 (sb_li (by assumption)) _ | exact fb_l0 (sb_f (by assumption)) | exact fb_l1 (sb_f (by assumption))) ?_
  refine rw_iconst (v := 1) F dc_X9_text_20 rfl ?_
  refine rw_iaN F dc_X9_text_21 (by first | rfl | assumption | decide | exact r73_k (by assumption) | exact fb_k (by assumption) | exact sb_k (by assumption) | exact tb_k (by assumption) | exact sb_li (by assumption) | exact sb_s (by assumption) | exact tb_n (by assumption) | exact fb_k (sb_f (by assumption))) rfl (by decide) ?_
  refine rw_put F dc_X9_text_22 pf_RX9_255 (by first | rfl | assumption | decide | exact r73_k (by assumption) | exact fb_k (by assumption) | exact sb_k (by assumption) | exact tb_k (by assumption) | exact sb_li (by assumption) | exact sb_s (by assumption) | exact tb_n (by assumption) | exact fb_k (sb_f (by assumption))) (by first | rfl | assumption | exact lk6 (by assumption) _ | exact lk2 (by assumption) _ | exact fb_l0 (by assumption) | exact fb_l1 (by assumption) | exact sb_l0 (by assumption) | exact sb_l1 (by assumption) | exact sb_l2 (by assumption) | exact sb_l3 (by assumption) | exact tb_l0 (by assumption) | exact tb_l1 (by assumption) | exact tb_l2 (by assumption) | exact lk2 (sb_li (by assumption)) _ | exact fb_l0 (sb_f (by assumption)) | exact fb_l1 (sb_f (by assumption))) rfl rfl ?_
  refine rw_aload_n F dc_X9_text_25 rfl ?_
  obtain ⟨hs1, hp⟩ := hp
  refine rw_cVv F [] dc_X9_text_26 mv_X9_token ml_RX9_241 (by first | decide | omega) (rc_9 (by first | rfl | assumption | decide | exact r73_k (by assumption) | exact fb_k (by assumption) | exact sb_k (by assumption) | exact tb_k (by assumption) | exact sb_li (by assumption) | exact sb_s (by assumption) | exact tb_n (by assumption) | exact fb_k (sb_f (by assumption)))) rfl rfl (Nat.le_of_ble_eq_true rfl) (cr_X9_token hs1) ?_
  refine rw_aload_n F dc_X9_text_29 rfl ?_
  obtain ⟨hs2, hp⟩ := hp
  refine rw_cVv F [] dc_X9_text_30 mv_X9_readItem ml_RX9_285 (by first | decide | omega) (rc_9 (by first | rfl | assumption | decide | exact r73_k (by assumption) | exact fb_k (by assumption) | exact sb_k (by assumption) | exact tb_k (by assumption) | exact sb_li (by assumption) | exact sb_s (by assumption) | exact tb_n (by assumption) | exact fb_k (sb_f (by assumption)))) rfl rfl (Nat.le_of_ble_eq_true rfl) (cr_X9_readItem hs2) ?_
  first | exact lp_X9_text_33 F  N N  _ hp ⟨by first | (simp only [f_X9_text, g_X9_text]; done) | rfl | (simp only [f_X9_text, g_X9_text]; rfl), by first | (simp only [f_X9_text, g_X9_text]; done) | rfl | (simp only [f_X9_text, g_X9_text]; rfl)⟩ | contradiction
