def lf_X8_period_13 (N : Nat)  : Nat → Int32 → Int32 → tw_T → Int32
  | 0, _, _, _ => 0
  | n + 1, x1, x2, τ => if (12 : Int32) ≤ x2 then 12 else (if (((x1 <<< (x2 &&& 31)) ||| (x1 >>> ((12 - x2) &&& 31))) &&& 4095) = x1 then x2 else (lf_X8_period_13 N n x1 (x2 + 1) τ))
def lo_X8_period_13 (N : Nat)  : Nat → Int32 → Int32 → tw_T → Prop
  | 0, _, _, _ => False
  | n + 1, x1, x2, τ => if (12 : Int32) ≤ x2 then True else (if (((x1 <<< (x2 &&& 31)) ||| (x1 >>> ((12 - x2) &&& 31))) &&& 4095) = x1 then True else (lo_X8_period_13 N n x1 (x2 + 1) τ))
def f_X8_period (N : Nat)   (τ : tw_T) : Int32 := lf_X8_period_13 N N (τ 2 0) 1 τ
def p_X8_period (N : Nat)   (τ : tw_T) : Prop := lo_X8_period_13 N N (τ 2 0) 1 τ
theorem lp_X8_period_13 {K : tw_K} {Q : Option Value → tw_T → Prop} (F : tw_F K mX8_period 1 Q)   (N : Nat)  : ∀ (n : Nat) (x1 : Int32) (x2 : Int32) (τ : tw_T), lo_X8_period_13 N n x1 x2 τ → Q (some (.int (lf_X8_period_13 N n x1 x2 τ))) τ → tw_R K 13 [.ref 0, .int x1, .int x2, .null] [] τ := by
  intro n
  induction n with
  | zero => intro x1 x2 τ hp _; exact False.elim hp
  | succ n ih =>
    intro x1 x2 τ hp hq
    simp only [lo_X8_period_13] at hp
    simp only [lf_X8_period_13] at hq
    refine rw_iload_n F dc_X8_period_13 rfl ?_
    refine rw_bipush (v := 12) F dc_X8_period_14 rfl ?_
    refine rw_icmp_ge (tgt := 47) F dc_X8_period_16 rfl (fun c1 => ?_) (fun c1 => ?_)
    · rw [if_pos c1] at hp
      refine rw_bipush (v := 12) F dc_X8_period_47 rfl ?_
      refine rw_iret F dc_X8_period_49 rfl rfl ?_
      exact (by simpa only [if_pos c1] using hq)
    · rw [if_neg c1] at hp
      refine rw_iload_n F dc_X8_period_19 rfl ?_
      refine rw_iload_n F dc_X8_period_20 rfl ?_
      refine rw_ishl F dc_X8_period_21 ?_
      refine rw_iload_n F dc_X8_period_22 rfl ?_
      refine rw_bipush (v := 12) F dc_X8_period_23 rfl ?_
      refine rw_iload_n F dc_X8_period_25 rfl ?_
      refine rw_isub F dc_X8_period_26 ?_
      refine rw_ishr F dc_X8_period_27 ?_
      refine rw_ior F dc_X8_period_28 ?_
      refine rw_sipush (v := 4095) F dc_X8_period_29 rfl ?_
      refine rw_iand F dc_X8_period_32 ?_
      refine rw_istore_n F dc_X8_period_33 (by decide) rfl ?_
      refine rw_iload_n F dc_X8_period_34 rfl ?_
      refine rw_iload_n F dc_X8_period_35 rfl ?_
      refine rw_icmp_ne (tgt := 41) F dc_X8_period_36 rfl (fun c2 => ?_) (fun c2 => ?_)
      · rw [if_neg c2] at hp
        refine rw_inc (n1 := 1) F dc_X8_period_41 rfl rfl (by decide) rfl ?_
        refine rw_goto (tgt := 13) F dc_X8_period_44 rfl ?_
        refine rw_nul 3 ?_
        exact ih _ _ _ hp (by simpa only [if_neg c1, if_neg c2] using hq)
      · rw [if_pos c2] at hp
        refine rw_iload_n F dc_X8_period_39 rfl ?_
        refine rw_iret F dc_X8_period_40 rfl rfl ?_
        exact (by simpa only [if_neg c1, if_pos c2] using hq)
theorem cr_X8_period {E : tw_E}  {N : Nat}   {τ : tw_T} (hp : p_X8_period N τ)  : tw_Ci E 1 mX8_period [.ref 0] τ (f_X8_period N τ) (τ) := by
  unfold p_X8_period at hp
  refine ct_of (by decide) (by simp [Value.category]) (Nat.le_of_ble_eq_true rfl) (fun K hE F => ?_)
  subst hE
  refine rw_aload_n F dc_X8_period_0 rfl ?_
  refine rw_getR F dc_X8_period_1 fl_RX8_12 (by first | rfl | assumption | decide | exact r73_k (by assumption) | exact fb_k (by assumption) | exact sb_k (by assumption) | exact tb_k (by assumption) | exact sb_li (by assumption) | exact sb_s (by assumption) | exact tb_n (by assumption) | exact fb_k (sb_f (by assumption))) (by first | rfl | assumption | exact lk6 (by assumption) _ | exact lk2 (by assumption) _ | exact fb_l0 (by assumption) | exact fb_l1 (by assumption) | exact sb_l0 (by assumption) | exact sb_l1 (by assumption) | exact sb_l2 (by assumption) | exact sb_l3 (by assumption) | exact tb_l0 (by assumption) | exact tb_l1 (by assumption) | exact tb_l2 (by assumption) | exact lk2 (sb_li (by assumption)) _ | exact fb_l0 (sb_f (by assumption)) | exact fb_l1 (sb_f (by assumption))) ?_
  refine rw_getR F dc_X8_period_4 fl_RX8_87 (by first | rfl | assumption | decide | exact r73_k (by assumption) | exact fb_k (by assumption) | exact sb_k (by assumption) | exact tb_k (by assumption) | exact sb_li (by assumption) | exact sb_s (by assumption) | exact tb_n (by assumption) | exact fb_k (sb_f (by assumption))) (by first | rfl | assumption | exact lk6 (by assumption) _ | exact lk2 (by assumption) _ | exact fb_l0 (by assumption) | exact fb_l1 (by assumption) | exact sb_l0 (by assumption) | exact sb_l1 (by assumption) | exact sb_l2 (by assumption) | exact sb_l3 (by assumption) | exact tb_l0 (by assumption) | exact tb_l1 (by assumption) | exact tb_l2 (by assumption) | exact lk2 (sb_li (by assumption)) _ | exact fb_l0 (sb_f (by assumption)) | exact fb_l1 (sb_f (by assumption))) ?_
  refine rw_getI F dc_X8_period_7 fl_RX8_200 (by first | rfl | assumption | decide | exact r73_k (by assumption) | exact fb_k (by assumption) | exact sb_k (by assumption) | exact tb_k (by assumption) | exact sb_li (by assumption) | exact sb_s (by assumption) | exact tb_n (by assumption) | exact fb_k (sb_f (by assumption))) (by first | rfl | assumption | exact lk6 (by assumption) _ | exact lk2 (by assumption) _ | exact fb_l0 (by assumption) | exact fb_l1 (by assumption) | exact sb_l0 (by assumption) | exact sb_l1 (by assumption) | exact sb_l2 (by assumption) | exact sb_l3 (by assumption) | exact tb_l0 (by assumption) | exact tb_l1 (by assumption) | exact tb_l2 (by assumption) | exact lk2 (sb_li (by assumption)) _ | exact fb_l0 (sb_f (by assumption)) | exact fb_l1 (sb_f (by assumption))) ?_
  refine rw_istore_n F dc_X8_period_10 (by decide) rfl ?_
  refine rw_iconst (v := 1) F dc_X8_period_11 rfl ?_
  refine rw_istore_n F dc_X8_period_12 (by decide) rfl ?_
  exact lp_X8_period_13 F  N N _ _ _ hp ⟨by first | (simp only [f_X8_period]; done) | rfl | (simp only [f_X8_period]; rfl), by first | (simp only [f_X8_period]; done) | rfl | (simp only [f_X8_period]; rfl)⟩
def f_X8_seed  (x1 : Int32) (τ : tw_T) : Int32 := τ 1 3
def g_X8_seed  (x1 : Int32) (τ : tw_T) : tw_T := tw_sr τ 1 (upd (τ 1) 3 x1)
theorem ct_X8_seed {E : tw_E}   {x1 : Int32} {τ : tw_T}   : tw_Ci E 1 mX8_seed [.ref 0, .int x1] τ (f_X8_seed x1 τ) (g_X8_seed x1 τ) := by
  refine ct_of (by decide) (by simp [Value.category]) (Nat.le_of_ble_eq_true rfl) (fun K hE F => ?_)
  subst hE
  refine rw_aload_n F dc_X8_seed_0 rfl ?_
  refine rw_getR F dc_X8_seed_1 fl_RX8_12 (by first | rfl | assumption | decide | exact r73_k (by assumption) | exact fb_k (by assumption) | exact sb_k (by assumption) | exact tb_k (by assumption) | exact sb_li (by assumption) | exact sb_s (by assumption) | exact tb_n (by assumption) | exact fb_k (sb_f (by assumption))) (by first | rfl | assumption | exact lk6 (by assumption) _ | exact lk2 (by assumption) _ | exact fb_l0 (by assumption) | exact fb_l1 (by assumption) | exact sb_l0 (by assumption) | exact sb_l1 (by assumption) | exact sb_l2 (by assumption) | exact sb_l3 (by assumption) | exact tb_l0 (by assumption) | exact tb_l1 (by assumption) | exact tb_l2 (by assumption) | exact lk2 (sb_li (by assumption)) _ | exact fb_l0 (sb_f (by assumption)) | exact fb_l1 (sb_f (by assumption))) ?_
  refine rw_getI F dc_X8_seed_4 fl_RX8_265 (by first | rfl | assumption | decide | exact r73_k (by assumption) | exact fb_k (by assumption) | exact sb_k (by assumption) | exact tb_k (by assumption) | exact sb_li (by assumption) | exact sb_s (by assumption) | exact tb_n (by assumption) | exact fb_k (sb_f (by assumption))) (by first | rfl | assumption | exact lk6 (by assumption) _ | exact lk2 (by assumption) _ | exact fb_l0 (by assumption) | exact fb_l1 (by assumption) | exact sb_l0 (by assumption) | exact sb_l1 (by assumption) | exact sb_l2 (by assumption) | exact sb_l3 (by assumption) | exact tb_l0 (by assumption) | exact tb_l1 (by assumption) | exact tb_l2 (by assumption) | exact lk2 (sb_li (by assumption)) _ | exact fb_l0 (sb_f (by assumption)) | exact fb_l1 (sb_f (by assumption))) ?_
  refine rw_istore_n F dc_X8_seed_7 (by decide) rfl ?_
  refine rw_aload_n F dc_X8_seed_8 rfl ?_
  refine rw_getR F dc_X8_seed_9 fl_RX8_12 (by first | rfl | assumption | decide | exact r73_k (by assumption) | exact fb_k (by assumption) | exact sb_k (by assumption) | exact tb_k (by assumption) | exact sb_li (by assumption) | exact sb_s (by assumption) | exact tb_n (by assumption) | exact fb_k (sb_f (by assumption))) (by first | rfl | assumption | exact lk6 (by assumption) _ | exact lk2 (by assumption) _ | exact fb_l0 (by assumption) | exact fb_l1 (by assumption) | exact sb_l0 (by assumption) | exact sb_l1 (by assumption) | exact sb_l2 (by assumption) | exact sb_l3 (by assumption) | exact tb_l0 (by assumption) | exact tb_l1 (by assumption) | exact tb_l2 (by assumption) | exact lk2 (sb_li (by assumption)) _ | exact fb_l0 (sb_f (by assumption)) | exact fb_l1 (sb_f (by assumption))) ?_
  refine rw_iload_n F dc_X8_seed_12 rfl ?_
  refine rw_put F dc_X8_seed_13 pf_RX8_265 (by first | rfl | assumption | decide | exact r73_k (by assumption) | exact fb_k (by assumption) | exact sb_k (by assumption) | exact tb_k (by assumption) | exact sb_li (by assumption) | exact sb_s (by assumption) | exact tb_n (by assumption) | exact fb_k (sb_f (by assumption))) (by first | rfl | assumption | exact lk6 (by assumption) _ | exact lk2 (by assumption) _ | exact fb_l0 (by assumption) | exact fb_l1 (by assumption) | exact sb_l0 (by assumption) | exact sb_l1 (by assumption) | exact sb_l2 (by assumption) | exact sb_l3 (by assumption) | exact tb_l0 (by assumption) | exact tb_l1 (by assumption) | exact tb_l2 (by assumption) | exact lk2 (sb_li (by assumption)) _ | exact fb_l0 (sb_f (by assumption)) | exact fb_l1 (sb_f (by assumption))) rfl rfl ?_
  refine rw_iload_n F dc_X8_seed_16 rfl ?_
  refine rw_iret F dc_X8_seed_17 rfl rfl ?_
  exact ⟨by first | (simp only [f_X8_seed, g_X8_seed]; done) | rfl | (simp only [f_X8_seed, g_X8_seed]; rfl), by first | (simp only [f_X8_seed, g_X8_seed]; done) | rfl | (simp only [f_X8_seed, g_X8_seed]; rfl)⟩
def f_X8_wipe   (τ : tw_T) : Int32 := τ 27 1
def g_X8_wipe   (τ : tw_T) : tw_T := tw_sr τ 27 (upd (τ 27) 1 0)
theorem ct_X8_wipe {E : tw_E}    {τ : tw_T}   : tw_Ci E 1 mX8_wipe [.ref 0] τ (f_X8_wipe τ) (g_X8_wipe τ) := by
  refine ct_of (by decide) (by simp [Value.category]) (Nat.le_of_ble_eq_true rfl) (fun K hE F => ?_)
  subst hE
  refine rw_aload_n F dc_X8_wipe_0 rfl ?_
  refine rw_getR F dc_X8_wipe_1 fl_RX8_26 (by first | rfl | assumption | decide | exact r73_k (by assumption) | exact fb_k (by assumption) | exact sb_k (by assumption) | exact tb_k (by assumption) | exact sb_li (by assumption) | exact sb_s (by assumption) | exact tb_n (by assumption) | exact fb_k (sb_f (by assumption))) (by first | rfl | assumption | exact lk6 (by assumption) _ | exact lk2 (by assumption) _ | exact fb_l0 (by assumption) | exact fb_l1 (by assumption) | exact sb_l0 (by assumption) | exact sb_l1 (by assumption) | exact sb_l2 (by assumption) | exact sb_l3 (by assumption) | exact tb_l0 (by assumption) | exact tb_l1 (by assumption) | exact tb_l2 (by assumption) | exact lk2 (sb_li (by assumption)) _ | exact fb_l0 (sb_f (by assumption)) | exact fb_l1 (sb_f (by assumption))) ?_
  refine rw_getI F dc_X8_wipe_4 fl_RX8_268 (by first | rfl | assumption | decide | exact r73_k (by assumption) | exact fb_k (by assumption) | exact sb_k (by assumption) | exact tb_k (by assumption) | exact sb_li (by assumption) | exact sb_s (by assumption) | exact tb_n (by assumption) | exact fb_k (sb_f (by assumption))) (by first | rfl | assumption | exact lk6 (by assumption) _ | exact lk2 (by assumption) _ | exact fb_l0 (by assumption) | exact fb_l1 (by assumption) | exact sb_l0 (by assumption) | exact sb_l1 (by assumption) | exact sb_l2 (by assumption) | exact sb_l3 (by assumption) | exact tb_l0 (by assumption) | exact tb_l1 (by assumption) | exact tb_l2 (by assumption) | exact lk2 (sb_li (by assumption)) _ | exact fb_l0 (sb_f (by assumption)) | exact fb_l1 (sb_f (by assumption))) ?_
  refine rw_istore_n F dc_X8_wipe_7 (by decide) rfl ?_
  refine rw_aload_n F dc_X8_wipe_8 rfl ?_
  refine rw_getR F dc_X8_wipe_9 fl_RX8_26 (by first | rfl | assumption | decide | exact r73_k (by assumption) | exact fb_k (by assumption) | exact sb_k (by assumption) | exact tb_k (by assumption) | exact sb_li (by assumption) | exact sb_s (by assumption) | exact tb_n (by assumption) | exact fb_k (sb_f (by assumption))) (by first | rfl | assumption | exact lk6 (by assumption) _ | exact lk2 (by assumption) _ | exact fb_l0 (by assumption) | exact fb_l1 (by assumption) | exact sb_l0 (by assumption) | exact sb_l1 (by assumption) | exact sb_l2 (by assumption) | exact sb_l3 (by assumption) | exact tb_l0 (by assumption) | exact tb_l1 (by assumption) | exact tb_l2 (by assumption) | exact lk2 (sb_li (by assumption)) _ | exact fb_l0 (sb_f (by assumption)) | exact fb_l1 (sb_f (by assumption))) ?_
  refine rw_iconst (v := 0) F dc_X8_wipe_12 rfl ?_
  refine rw_put F dc_X8_wipe_13 pf_RX8_268 (by first | rfl | assumption | decide | exact r73_k (by assumption) | exact fb_k (by assumption) | exact sb_k (by assumption) | exact tb_k (by assumption) | exact sb_li (by assumption) | exact sb_s (by assumption) | exact tb_n (by assumption) | exact fb_k (sb_f (by assumption))) (by first | rfl | assumption | exact lk6 (by assumption) _ | exact lk2 (by assumption) _ | exact fb_l0 (by assumption) | exact fb_l1 (by assumption) | exact sb_l0 (by assumption) | exact sb_l1 (by assumption) | exact sb_l2 (by assumption) | exact sb_l3 (by assumption) | exact tb_l0 (by assumption) | exact tb_l1 (by assumption) | exact tb_l2 (by assumption) | exact lk2 (sb_li (by assumption)) _ | exact fb_l0 (sb_f (by assumption)) | exact fb_l1 (sb_f (by assumption))) rfl rfl ?_
  refine rw_iload_n F dc_X8_wipe_16 rfl ?_
  refine rw_iret F dc_X8_wipe_17 rfl rfl ?_
  exact ⟨by first | (simp only [f_X8_wipe, g_X8_wipe]; done) | rfl | (simp only [f_X8_wipe, g_X8_wipe]; rfl), by first | (simp only [f_X8_wipe, g_X8_wipe]; done) | rfl | (simp only [f_X8_wipe, g_X8_wipe]; rfl)⟩
def f_X8_tear   (τ : tw_T) : Int32 := if (τ 0 2) = (0 : Int32) then 0 else 1
def g_X8_tear   (τ : tw_T) : tw_T := tw_sr τ 0 (upd (τ 0) 2 0)
theorem ct_X8_tear {E : tw_E}    {τ : tw_T}   : tw_Ci E 1 mX8_tear [.ref 0] τ (f_X8_tear τ) (g_X8_tear τ) := by
  refine ct_of (by decide) (by simp [Value.category]) (Nat.le_of_ble_eq_true rfl) (fun K hE F => ?_)
  subst hE
  refine rw_aload_n F dc_X8_tear_0 rfl ?_
  refine rw_getI F dc_X8_tear_1 fl_RX8_19 (by first | rfl | assumption | decide | exact r73_k (by assumption) | exact fb_k (by assumption) | exact sb_k (by assumption) | exact tb_k (by assumption) | exact sb_li (by assumption) | exact sb_s (by assumption) | exact tb_n (by assumption) | exact fb_k (sb_f (by assumption))) (by first | rfl | assumption | exact lk6 (by assumption) _ | exact lk2 (by assumption) _ | exact fb_l0 (by assumption) | exact fb_l1 (by assumption) | exact sb_l0 (by assumption) | exact sb_l1 (by assumption) | exact sb_l2 (by assumption) | exact sb_l3 (by assumption) | exact tb_l0 (by assumption) | exact tb_l1 (by assumption) | exact tb_l2 (by assumption) | exact lk2 (sb_li (by assumption)) _ | exact fb_l0 (sb_f (by assumption)) | exact fb_l1 (sb_f (by assumption))) ?_
  refine rw_if_eq (tgt := 11) F dc_X8_tear_4 rfl (fun c1 => ?_) (fun c1 => ?_)
  · refine rw_iconst (v := 0) F dc_X8_tear_11 rfl ?_
    refine rw_istore_n F dc_X8_tear_12 (by decide) rfl ?_
    refine rw_aload_n F dc_X8_tear_13 rfl ?_
    refine rw_iconst (v := 0) F dc_X8_tear_14 rfl ?_
    refine rw_put F dc_X8_tear_15 pf_RX8_19 (by first | rfl | assumption | decide | exact r73_k (by assumption) | exact fb_k (by assumption) | exact sb_k (by assumption) | exact tb_k (by assumption) | exact sb_li (by assumption) | exact sb_s (by assumption) | exact tb_n (by assumption) | exact fb_k (sb_f (by assumption))) (by first | rfl | assumption | exact lk6 (by assumption) _ | exact lk2 (by assumption) _ | exact fb_l0 (by assumption) | exact fb_l1 (by assumption) | exact sb_l0 (by assumption) | exact sb_l1 (by assumption) | exact sb_l2 (by assumption) | exact sb_l3 (by assumption) | exact tb_l0 (by assumption) | exact tb_l1 (by assumption) | exact tb_l2 (by assumption) | exact lk2 (sb_li (by assumption)) _ | exact fb_l0 (sb_f (by assumption)) | exact fb_l1 (sb_f (by assumption))) rfl rfl ?_
    refine rw_iload_n F dc_X8_tear_18 rfl ?_
    refine rw_iret F dc_X8_tear_19 rfl rfl ?_
    exact ⟨by first | (simp only [f_X8_tear, g_X8_tear, if_pos c1]; done) | rfl | (simp only [f_X8_tear, g_X8_tear, if_pos c1]; rfl), by first | (simp only [f_X8_tear, g_X8_tear, if_pos c1]; done) | rfl | (simp only [f_X8_tear, g_X8_tear, if_pos c1]; rfl)⟩
  · refine rw_iconst (v := 1) F dc_X8_tear_7 rfl ?_
    refine rw_goto (tgt := 12) F dc_X8_tear_8 rfl ?_
    refine rw_istore_n F dc_X8_tear_12 (by decide) rfl ?_
    refine rw_aload_n F dc_X8_tear_13 rfl ?_
    refine rw_iconst (v := 0) F dc_X8_tear_14 rfl ?_
    refine rw_put F dc_X8_tear_15 pf_RX8_19 (by first | rfl | assumption | decide | exact r73_k (by assumption) | exact fb_k (by assumption) | exact sb_k (by assumption) | exact tb_k (by assumption) | exact sb_li (by assumption) | exact sb_s (by assumption) | exact tb_n (by assumption) | exact fb_k (sb_f (by assumption))) (by first | rfl | assumption | exact lk6 (by assumption) _ | exact lk2 (by assumption) _ | exact fb_l0 (by assumption) | exact fb_l1 (by assumption) | exact sb_l0 (by assumption) | exact sb_l1 (by assumption) | exact sb_l2 (by assumption) | exact sb_l3 (by assumption) | exact tb_l0 (by assumption) | exact tb_l1 (by assumption) | exact tb_l2 (by assumption) | exact lk2 (sb_li (by assumption)) _ | exact fb_l0 (sb_f (by assumption)) | exact fb_l1 (sb_f (by assumption))) rfl rfl ?_
    refine rw_iload_n F dc_X8_tear_18 rfl ?_
    refine rw_iret F dc_X8_tear_19 rfl rfl ?_
    exact ⟨by first | (simp only [f_X8_tear, g_X8_tear, if_neg c1]; done) | rfl | (simp only [f_X8_tear, g_X8_tear, if_neg c1]; rfl), by first | (simp only [f_X8_tear, g_X8_tear, if_neg c1]; done) | rfl | (simp only [f_X8_tear, g_X8_tear, if_neg c1]; rfl)⟩
def lf_X8_gainWithout_5 (N : Nat)  : Nat → Int32 → Int32 → Int32 → Int32 → tw_T → Int32
  | 0, _, _, _, _, _ => 0
  | n + 1, x1, x2, x3, x4, τ => if x2 ≤ x4 then x3 else (if ((x1 >>> (x4 &&& 31)) &&& 1) = (0 : Int32) then (lf_X8_gainWithout_5 N n x1 x2 (x3 + (τ 47 x4.toNatClampNeg)) (x4 + 1) τ) else (lf_X8_gainWithout_5 N n x1 x2 x3 (x4 + 1) τ))
def lo_X8_gainWithout_5 (N : Nat)  : Nat → Int32 → Int32 → Int32 → Int32 → tw_T → Prop
  | 0, _, _, _, _, _ => False
  | n + 1, x1, x2, x3, x4, τ => if x2 ≤ x4 then True else (if ((x1 >>> (x4 &&& 31)) &&& 1) = (0 : Int32) then (vp_in x4 8 ∧ (lo_X8_gainWithout_5 N n x1 x2 (x3 + (τ 47 x4.toNatClampNeg)) (x4 + 1) τ)) else (lo_X8_gainWithout_5 N n x1 x2 x3 (x4 + 1) τ))
def f_X8_gainWithout (N : Nat)  (x1 : Int32) (x2 : Int32) (τ : tw_T) : Int32 := lf_X8_gainWithout_5 N N x1 x2 0 0 τ
def p_X8_gainWithout (N : Nat)  (x1 : Int32) (x2 : Int32) (τ : tw_T) : Prop := lo_X8_gainWithout_5 N N x1 x2 0 0 τ
theorem lp_X8_gainWithout_5 {K : tw_K} {Q : Option Value → tw_T → Prop} (F : tw_F K mX8_gainWithout 1 Q)   (N : Nat)  : ∀ (n : Nat) (x1 : Int32) (x2 : Int32) (x3 : Int32) (x4 : Int32) (τ : tw_T), lo_X8_gainWithout_5 N n x1 x2 x3 x4 τ → Q (some (.int (lf_X8_gainWithout_5 N n x1 x2 x3 x4 τ))) τ → tw_R K 5 [.ref 0, .int x1, .int x2, .int x3, .int x4] [] τ := by
  intro n
  induction n with
  | zero => intro x1 x2 x3 x4 τ hp _; exact False.elim hp
  | succ n ih =>
    intro x1 x2 x3 x4 τ hp hq
    simp only [lo_X8_gainWithout_5] at hp
    simp only [lf_X8_gainWithout_5] at hq
    refine rw_iload F dc_X8_gainWithout_5 rfl ?_
    refine rw_iload_n F dc_X8_gainWithout_7 rfl ?_
    refine rw_icmp_ge (tgt := 36) F dc_X8_gainWithout_8 rfl (fun c1 => ?_) (fun c1 => ?_)
    · rw [if_pos c1] at hp
      refine rw_iload_n F dc_X8_gainWithout_36 rfl ?_
      refine rw_iret F dc_X8_gainWithout_37 rfl rfl ?_
      exact (by simpa only [if_pos c1] using hq)
    · rw [if_neg c1] at hp
      refine rw_iload_n F dc_X8_gainWithout_11 rfl ?_
      refine rw_iload F dc_X8_gainWithout_12 rfl ?_
      refine rw_ishr F dc_X8_gainWithout_14 ?_
      refine rw_iconst (v := 1) F dc_X8_gainWithout_15 rfl ?_
      refine rw_iand F dc_X8_gainWithout_16 ?_
      refine rw_if_ne (tgt := 30) F dc_X8_gainWithout_17 rfl (fun c2 => ?_) (fun c2 => ?_)
      · rw [if_neg c2] at hp
        refine rw_inc (n1 := 1) F dc_X8_gainWithout_30 rfl rfl (by decide) rfl ?_
        refine rw_goto (tgt := 5) F dc_X8_gainWithout_33 rfl ?_
        exact ih _ _ _ _ _ hp (by simpa only [if_neg c1, if_neg c2] using hq)
      · rw [if_pos c2] at hp
        refine rw_iload_n F dc_X8_gainWithout_20 rfl ?_
        refine rw_aload_n F dc_X8_gainWithout_21 rfl ?_
        refine rw_getR F dc_X8_gainWithout_22 fl_RX8_60 (by first | rfl | assumption | decide | exact r73_k (by assumption) | exact fb_k (by assumption) | exact sb_k (by assumption) | exact tb_k (by assumption) | exact sb_li (by assumption) | exact sb_s (by assumption) | exact tb_n (by assumption) | exact fb_k (sb_f (by assumption))) (by first | rfl | assumption | exact lk6 (by assumption) _ | exact lk2 (by assumption) _ | exact fb_l0 (by assumption) | exact fb_l1 (by assumption) | exact sb_l0 (by assumption) | exact sb_l1 (by assumption) | exact sb_l2 (by assumption) | exact sb_l3 (by assumption) | exact tb_l0 (by assumption) | exact tb_l1 (by assumption) | exact tb_l2 (by assumption) | exact lk2 (sb_li (by assumption)) _ | exact fb_l0 (sb_f (by assumption)) | exact fb_l1 (sb_f (by assumption))) ?_
        refine rw_iload F dc_X8_gainWithout_25 rfl ?_
        obtain ⟨hs3, hp⟩ := hp
        refine rw_iaC F dc_X8_gainWithout_27 (by first | rfl | assumption | decide | exact r73_k (by assumption) | exact fb_k (by assumption) | exact sb_k (by assumption) | exact tb_k (by assumption) | exact sb_li (by assumption) | exact sb_s (by assumption) | exact tb_n (by assumption) | exact fb_k (sb_f (by assumption))) (by first | rfl | exact r73_n (by assumption) | exact sb_sn (by assumption) | exact tb_nn (by assumption)) hs3 ?_
        refine rw_iadd F dc_X8_gainWithout_28 ?_
        refine rw_istore_n F dc_X8_gainWithout_29 (by decide) rfl ?_
        refine rw_inc (n1 := 1) F dc_X8_gainWithout_30 rfl rfl (by decide) rfl ?_
        refine rw_goto (tgt := 5) F dc_X8_gainWithout_33 rfl ?_
        exact ih _ _ _ _ _ hp (by simpa only [if_neg c1, if_pos c2] using hq)
theorem cr_X8_gainWithout {E : tw_E}  {N : Nat}  {x1 : Int32} {x2 : Int32} {τ : tw_T} (hp : p_X8_gainWithout N x1 x2 τ)  : tw_Ci E 1 mX8_gainWithout [.ref 0, .int x1, .int x2] τ (f_X8_gainWithout N x1 x2 τ) (τ) := by
  unfold p_X8_gainWithout at hp
  refine ct_of (by decide) (by simp [Value.category]) (Nat.le_of_ble_eq_true rfl) (fun K hE F => ?_)
  subst hE
  refine rw_iconst (v := 0) F dc_X8_gainWithout_0 rfl ?_
  refine rw_istore_n F dc_X8_gainWithout_1 (by decide) rfl ?_
  refine rw_iconst (v := 0) F dc_X8_gainWithout_2 rfl ?_
  refine rw_istore F dc_X8_gainWithout_3 (by decide) rfl ?_
  exact lp_X8_gainWithout_5 F  N N _ _ _ _ _ hp ⟨by first | (simp only [f_X8_gainWithout]; done) | rfl | (simp only [f_X8_gainWithout]; rfl), by first | (simp only [f_X8_gainWithout]; done) | rfl | (simp only [f_X8_gainWithout]; rfl)⟩
def lf_X8_lowered_3 (N : Nat)  : Nat → Int32 → Int32 → Int32 → tw_T → Int32
  | 0, _, _, _, _ => 0
  | n + 1, x0, x1, x2, τ => if x2 ≤ (1 : Int32) then x0 else (if (x0 - x0 / x2 * x2) = (0 : Int32) then (if (x1 - x1 / x2 * x2) = (0 : Int32) then (x0 / x2) else (lf_X8_lowered_3 N n x0 x1 (x2 + (-1)) τ)) else (lf_X8_lowered_3 N n x0 x1 (x2 + (-1)) τ))
def lo_X8_lowered_3 (N : Nat)  : Nat → Int32 → Int32 → Int32 → tw_T → Prop
  | 0, _, _, _, _ => False
  | n + 1, x0, x1, x2, τ => if x2 ≤ (1 : Int32) then True else (¬ x2 = 0 ∧ (if (x0 - x0 / x2 * x2) = (0 : Int32) then (¬ x2 = 0 ∧ (if (x1 - x1 / x2 * x2) = (0 : Int32) then (¬ x2 = 0 ∧ True) else (lo_X8_lowered_3 N n x0 x1 (x2 + (-1)) τ))) else (lo_X8_lowered_3 N n x0 x1 (x2 + (-1)) τ)))
def f_X8_lowered (N : Nat)  (x0 : Int32) (x1 : Int32) (τ : tw_T) : Int32 := lf_X8_lowered_3 N N x0 x1 12 τ
def p_X8_lowered (N : Nat)  (x0 : Int32) (x1 : Int32) (τ : tw_T) : Prop := lo_X8_lowered_3 N N x0 x1 12 τ
theorem lp_X8_lowered_3 {K : tw_K} {Q : Option Value → tw_T → Prop} (F : tw_F K mX8_lowered 1 Q)   (N : Nat)  : ∀ (n : Nat) (x0 : Int32) (x1 : Int32) (x2 : Int32) (τ : tw_T), lo_X8_lowered_3 N n x0 x1 x2 τ → Q (some (.int (lf_X8_lowered_3 N n x0 x1 x2 τ))) τ → tw_R K 3 [.int x0, .int x1, .int x2] [] τ := by
  intro n
  induction n with
  | zero => intro x0 x1 x2 τ hp _; exact False.elim hp
  | succ n ih =>
    intro x0 x1 x2 τ hp hq
    simp only [lo_X8_lowered_3] at hp
    simp only [lf_X8_lowered_3] at hq
    refine rw_iload_n F dc_X8_lowered_3 rfl ?_
    refine rw_iconst (v := 1) F dc_X8_lowered_4 rfl ?_
    refine rw_icmp_le (tgt := 30) F dc_X8_lowered_5 rfl (fun c1 => ?_) (fun c1 => ?_)
    · rw [if_pos c1] at hp
      refine rw_iload_n F dc_X8_lowered_30 rfl ?_
      refine rw_iret F dc_X8_lowered_31 rfl rfl ?_
      exact (by simpa only [if_pos c1] using hq)
    · rw [if_neg c1] at hp
      refine rw_iload_n F dc_X8_lowered_8 rfl ?_
      refine rw_iload_n F dc_X8_lowered_9 rfl ?_
      obtain ⟨hs2, hp⟩ := hp
      refine rw_irem F dc_X8_lowered_10 hs2 ?_
      refine rw_if_ne (tgt := 24) F dc_X8_lowered_11 rfl (fun c3 => ?_) (fun c3 => ?_)
      · rw [if_neg c3] at hp
        refine rw_inc (n1 := (-1)) F dc_X8_lowered_24 rfl rfl (by decide) rfl ?_
        refine rw_goto (tgt := 3) F dc_X8_lowered_27 rfl ?_
        exact ih _ _ _ _ hp (by simpa only [if_neg c1, if_neg c3] using hq)
      · rw [if_pos c3] at hp
        refine rw_iload_n F dc_X8_lowered_14 rfl ?_
        refine rw_iload_n F dc_X8_lowered_15 rfl ?_
        obtain ⟨hs4, hp⟩ := hp
        refine rw_irem F dc_X8_lowered_16 hs4 ?_
        refine rw_if_ne (tgt := 24) F dc_X8_lowered_17 rfl (fun c5 => ?_) (fun c5 => ?_)
        · rw [if_neg c5] at hp
          refine rw_inc (n1 := (-1)) F dc_X8_lowered_24 rfl rfl (by decide) rfl ?_
          refine rw_goto (tgt := 3) F dc_X8_lowered_27 rfl ?_
          exact ih _ _ _ _ hp (by simpa only [if_neg c1, if_pos c3, if_neg c5] using hq)
        · rw [if_pos c5] at hp
          refine rw_iload_n F dc_X8_lowered_20 rfl ?_
          refine rw_iload_n F dc_X8_lowered_21 rfl ?_
          obtain ⟨hs6, hp⟩ := hp
          refine rw_idiv F dc_X8_lowered_22 hs6 ?_
          refine rw_iret F dc_X8_lowered_23 rfl rfl ?_
          exact (by simpa only [if_neg c1, if_pos c3, if_pos c5] using hq)
theorem cr_X8_lowered {E : tw_E}  {N : Nat}  {x0 : Int32} {x1 : Int32} {τ : tw_T} (hp : p_X8_lowered N x0 x1 τ)  : tw_Ci E 1 mX8_lowered [.int x0, .int x1] τ (f_X8_lowered N x0 x1 τ) (τ) := by
  unfold p_X8_lowered at hp
  refine ct_of (by decide) (by simp [Value.category]) (Nat.le_of_ble_eq_true rfl) (fun K hE F => ?_)
  subst hE
  refine rw_bipush (v := 12) F dc_X8_lowered_0 rfl ?_
  refine rw_istore_n F dc_X8_lowered_2 (by decide) rfl ?_
  exact lp_X8_lowered_3 F  N N _ _ _ _ hp ⟨by first | (simp only [f_X8_lowered]; done) | rfl | (simp only [f_X8_lowered]; rfl), by first | (simp only [f_X8_lowered]; done) | rfl | (simp only [f_X8_lowered]; rfl)⟩
def lf_X8_power_5 (N : Nat)  : Nat → Int32 → Int32 → Int64 → Int32 → tw_T → Int64
  | 0, _, _, _, _, _ => 0
  | n + 1, x0, x1, x2, x4, τ => if x1 ≤ x4 then x2 else (lf_X8_power_5 N n x0 x1 (x2 * x0.toInt64) (x4 + 1) τ)
def lo_X8_power_5 (N : Nat)  : Nat → Int32 → Int32 → Int64 → Int32 → tw_T → Prop
  | 0, _, _, _, _, _ => False
  | n + 1, x0, x1, x2, x4, τ => if x1 ≤ x4 then True else (lo_X8_power_5 N n x0 x1 (x2 * x0.toInt64) (x4 + 1) τ)
def f_X8_power (N : Nat)  (x0 : Int32) (x1 : Int32) (τ : tw_T) : Int64 := lf_X8_power_5 N N x0 x1 1 0 τ
def p_X8_power (N : Nat)  (x0 : Int32) (x1 : Int32) (τ : tw_T) : Prop := lo_X8_power_5 N N x0 x1 1 0 τ
theorem lp_X8_power_5 {K : tw_K} {Q : Option Value → tw_T → Prop} (F : tw_F K mX8_power 1 Q)   (N : Nat)  : ∀ (n : Nat) (x0 : Int32) (x1 : Int32) (x2 : Int64) (x4 : Int32) (τ : tw_T), lo_X8_power_5 N n x0 x1 x2 x4 τ → Q (some (.long (lf_X8_power_5 N n x0 x1 x2 x4 τ))) τ → tw_R K 5 [.int x0, .int x1, .long x2, .null, .int x4] [] τ := by
  intro n
  induction n with
  | zero => intro x0 x1 x2 x4 τ hp _; exact False.elim hp
  | succ n ih =>
    intro x0 x1 x2 x4 τ hp hq
    simp only [lo_X8_power_5] at hp
    simp only [lf_X8_power_5] at hq
    refine rw_iload F dc_X8_power_5 rfl ?_
    refine rw_iload_n F dc_X8_power_7 rfl ?_
    refine rw_icmp_ge (tgt := 22) F dc_X8_power_8 rfl (fun c1 => ?_) (fun c1 => ?_)
    · rw [if_pos c1] at hp
      refine rw_lload_n F dc_X8_power_22 rfl ?_
      refine rw_lret F dc_X8_power_23 rfl ?_
      exact (by simpa only [if_pos c1] using hq)
    · rw [if_neg c1] at hp
      refine rw_lload_n F dc_X8_power_11 rfl ?_
      refine rw_iload_n F dc_X8_power_12 rfl ?_
      refine rw_i2l F dc_X8_power_13 ?_
      refine rw_lmul F dc_X8_power_14 ?_
      refine rw_lstore_n F dc_X8_power_15 (by decide) rfl ?_
      refine rw_inc (n1 := 1) F dc_X8_power_16 rfl rfl (by decide) rfl ?_
      refine rw_goto (tgt := 5) F dc_X8_power_19 rfl ?_
      exact ih _ _ _ _ _ hp (by simpa only [if_neg c1] using hq)
theorem cr_X8_power {E : tw_E}  {N : Nat}  {x0 : Int32} {x1 : Int32} {τ : tw_T} (hp : p_X8_power N x0 x1 τ)  : tw_Cl E 1 mX8_power [.int x0, .int x1] τ (f_X8_power N x0 x1 τ) (τ) := by
  unfold p_X8_power at hp
  refine ct_of (by decide) (by simp [Value.category]) (Nat.le_of_ble_eq_true rfl) (fun K hE F => ?_)
  subst hE
  refine rw_lconst (v := 1) F dc_X8_power_0 rfl ?_
  refine rw_lstore_n F dc_X8_power_1 (by decide) rfl ?_
  refine rw_iconst (v := 0) F dc_X8_power_2 rfl ?_
  refine rw_istore F dc_X8_power_3 (by decide) rfl ?_
  exact lp_X8_power_5 F  N N _ _ _ _ _ hp ⟨by first | (simp only [f_X8_power]; done) | rfl | (simp only [f_X8_power]; rfl), by first | (simp only [f_X8_power]; done) | rfl | (simp only [f_X8_power]; rfl)⟩
def g_X8_found  (x1 : Int32) (τ : tw_T) : tw_T := if (f_X8_within (((-1000001)) - x1) 0 6 τ) = (0 : Int32) then τ else (tw_sr τ 30 (upd (τ 30) (((-1000001)) - x1).toNatClampNeg ((τ 30 (((-1000001)) - x1).toNatClampNeg) + 1)))
theorem wi_in {v : Int32} {n : Nat} {hi : Int32} {τ : tw_T} (h : ¬ f_X8_within v 0 hi τ = 0) (hn : hi = nI n) (hn2 : n < 1000) : vp_in v (n + 1) := by
  unfold f_X8_within at h
  by_cases h1 : v < 0
  · rw [if_pos h1] at h; exact absurd rfl h
  · rw [if_neg h1] at h
    by_cases h2 : hi < v
    · rw [if_pos h2] at h; exact absurd rfl h
    · subst hn
      obtain ⟨j, hj, rfl⟩ := nI_of h1
      rw [nI_ltI (by omega) hj] at h2
      exact vp_in_nI (by omega) (by omega)
theorem cn_X8_found {E : tw_E} {x1 : Int32} {τ : tw_T} : tw_Ci E 2 mX8_found [.ref 0, .int x1] τ x1 (g_X8_found x1 τ) := by
  refine ct_of (by decide) (by simp [Value.category]) (Nat.le_of_ble_eq_true rfl) (fun K hE F => ?_)
  subst hE
  refine rw_ldc F dc_X8_found_0 kc_RX8_82 ?_
  refine rw_iload_n F dc_X8_found_2 rfl ?_
  refine rw_isub F dc_X8_found_3 ?_
  refine rw_istore_n F dc_X8_found_4 (by decide) rfl ?_
  refine rw_iload_n F dc_X8_found_5 rfl ?_
  refine rw_iconst (v := 0) F dc_X8_found_6 rfl ?_
  refine rw_bipush (v := 6) F dc_X8_found_7 rfl ?_
  refine rw_cSi F [_, _, _] dc_X8_found_9 ms_X8_within ml_RX8_97 (by decide)  rfl rfl (Nat.le_of_ble_eq_true rfl) ct_X8_within ?_
  refine rw_if_eq (tgt := 25) F dc_X8_found_12 rfl (fun c1 => ?_) (fun c1 => ?_)
  · skip
    refine rw_iload_n F dc_X8_found_25 rfl ?_
    refine rw_iret F dc_X8_found_26 rfl rfl ?_
    exact ⟨rfl, by simp only [g_X8_found, if_pos c1]⟩
  · skip
    refine rw_aload_n F dc_X8_found_15 rfl ?_
    refine rw_getR F dc_X8_found_16 fl_RX8_36 (by first | rfl | assumption | decide | exact r73_k (by assumption) | exact fb_k (by assumption) | exact sb_k (by assumption) | exact tb_k (by assumption) | exact sb_li (by assumption) | exact sb_s (by assumption) | exact tb_n (by assumption) | exact fb_k (sb_f (by assumption))) (by first | rfl | assumption | exact lk6 (by assumption) _ | exact lk2 (by assumption) _ | exact fb_l0 (by assumption) | exact fb_l1 (by assumption) | exact sb_l0 (by assumption) | exact sb_l1 (by assumption) | exact sb_l2 (by assumption) | exact sb_l3 (by assumption) | exact tb_l0 (by assumption) | exact tb_l1 (by assumption) | exact tb_l2 (by assumption) | exact lk2 (sb_li (by assumption)) _ | exact fb_l0 (sb_f (by assumption)) | exact fb_l1 (sb_f (by assumption))) ?_
    refine rw_iload_n F dc_X8_found_19 rfl ?_
    refine rw_dup2 F dc_X8_found_20 rfl rfl ?_
    have hs2 := wi_in (n := 6) c1 rfl (by decide)
    refine rw_iaC F dc_X8_found_21 (by first | rfl | assumption | decide | exact r73_k (by assumption) | exact fb_k (by assumption) | exact sb_k (by assumption) | exact tb_k (by assumption) | exact sb_li (by assumption) | exact sb_s (by assumption) | exact tb_n (by assumption) | exact fb_k (sb_f (by assumption))) (by first | rfl | exact r73_n (by assumption) | exact sb_sn (by assumption) | exact tb_nn (by assumption)) hs2 ?_
    refine rw_iconst (v := 1) F dc_X8_found_22 rfl ?_
    refine rw_iadd F dc_X8_found_23 ?_
    have hs3 := wi_in (n := 6) c1 rfl (by decide)
    refine rw_isC F dc_X8_found_24 (by first | rfl | assumption | decide | exact r73_k (by assumption) | exact fb_k (by assumption) | exact sb_k (by assumption) | exact tb_k (by assumption) | exact sb_li (by assumption) | exact sb_s (by assumption) | exact tb_n (by assumption) | exact fb_k (sb_f (by assumption))) (by first | rfl | exact r73_n (by assumption) | exact sb_sn (by assumption) | exact tb_nn (by assumption)) hs3 ?_
    refine rw_iload_n F dc_X8_found_25 rfl ?_
    refine rw_iret F dc_X8_found_26 rfl rfl ?_
    exact ⟨rfl, by simp only [g_X8_found, if_neg c1]⟩
def f_X8_isShip  (x1 : Int32) (τ : tw_T) : Int32 := f_X8_within x1 0 ((τ 3 1) - 1) τ
theorem ct_X8_isShip {E : tw_E}   {x1 : Int32} {τ : tw_T}   : tw_Ci E 2 mX8_isShip [.ref 0, .int x1] τ (f_X8_isShip x1 τ) (τ) := by
  refine ct_of (by decide) (by simp [Value.category]) (Nat.le_of_ble_eq_true rfl) (fun K hE F => ?_)
  subst hE
  refine rw_iload_n F dc_X8_isShip_0 rfl ?_
  refine rw_iconst (v := 0) F dc_X8_isShip_1 rfl ?_
  refine rw_aload_n F dc_X8_isShip_2 rfl ?_
  refine rw_getR F dc_X8_isShip_3 fl_RX8_12 (by first | rfl | assumption | decide | exact r73_k (by assumption) | exact fb_k (by assumption) | exact sb_k (by assumption) | exact tb_k (by assumption) | exact sb_li (by assumption) | exact sb_s (by assumption) | exact tb_n (by assumption) | exact fb_k (sb_f (by assumption))) (by first | rfl | assumption | exact lk6 (by assumption) _ | exact lk2 (by assumption) _ | exact fb_l0 (by assumption) | exact fb_l1 (by assumption) | exact sb_l0 (by assumption) | exact sb_l1 (by assumption) | exact sb_l2 (by assumption) | exact sb_l3 (by assumption) | exact tb_l0 (by assumption) | exact tb_l1 (by assumption) | exact tb_l2 (by assumption) | exact lk2 (sb_li (by assumption)) _ | exact fb_l0 (sb_f (by assumption)) | exact fb_l1 (sb_f (by assumption))) ?_
  refine rw_getR F dc_X8_isShip_6 fl_RX8_101 (by first | rfl | assumption | decide | exact r73_k (by assumption) | exact fb_k (by assumption) | exact sb_k (by assumption) | exact tb_k (by assumption) | exact sb_li (by assumption) | exact sb_s (by assumption) | exact tb_n (by assumption) | exact fb_k (sb_f (by assumption))) (by first | rfl | assumption | exact lk6 (by assumption) _ | exact lk2 (by assumption) _ | exact fb_l0 (by assumption) | exact fb_l1 (by assumption) | exact sb_l0 (by assumption) | exact sb_l1 (by assumption) | exact sb_l2 (by assumption) | exact sb_l3 (by assumption) | exact tb_l0 (by assumption) | exact tb_l1 (by assumption) | exact tb_l2 (by assumption) | exact lk2 (sb_li (by assumption)) _ | exact fb_l0 (sb_f (by assumption)) | exact fb_l1 (sb_f (by assumption))) ?_
  refine rw_getI F dc_X8_isShip_9 fl_RX8_115 (by first | rfl | assumption | decide | exact r73_k (by assumption) | exact fb_k (by assumption) | exact sb_k (by assumption) | exact tb_k (by assumption) | exact sb_li (by assumption) | exact sb_s (by assumption) | exact tb_n (by assumption) | exact fb_k (sb_f (by assumption))) (by first | rfl | assumption | exact lk6 (by assumption) _ | exact lk2 (by assumption) _ | exact fb_l0 (by assumption) | exact fb_l1 (by assumption) | exact sb_l0 (by assumption) | exact sb_l1 (by assumption) | exact sb_l2 (by assumption) | exact sb_l3 (by assumption) | exact tb_l0 (by assumption) | exact tb_l1 (by assumption) | exact tb_l2 (by assumption) | exact lk2 (sb_li (by assumption)) _ | exact fb_l0 (sb_f (by assumption)) | exact fb_l1 (sb_f (by assumption))) ?_
  refine rw_iconst (v := 1) F dc_X8_isShip_12 rfl ?_
  refine rw_isub F dc_X8_isShip_13 ?_
  refine rw_cSi F [_, _, _] dc_X8_isShip_14 ms_X8_within ml_RX8_97 (by decide)  rfl rfl (Nat.le_of_ble_eq_true rfl) ct_X8_within ?_
  refine rw_iret F dc_X8_isShip_17 rfl bn_X8_within ?_
  exact ⟨by first | (simp only [f_X8_isShip]; done) | rfl | (simp only [f_X8_isShip]; rfl), by first | (simp only [f_X8_isShip]; done) | rfl | (simp only [f_X8_isShip]; rfl)⟩
def f_X8_troubleWith  (x1 : Int32) (τ : tw_T) : Int32 := if (f_X8_within x1 0 3 τ) = (0 : Int32) then ((-1000001)) else (if (f_X5_isMissing (182 + 2 * x1.toNatClampNeg) τ) = (0 : Int32) then 0 else ((-1000006)))
def p_X8_troubleWith  (x1 : Int32) (τ : tw_T) : Prop := if (f_X8_within x1 0 3 τ) = (0 : Int32) then True else (vp_in x1 4 ∧ True)
theorem ct_X8_troubleWith {E : tw_E}   {x1 : Int32} {τ : tw_T} (hp : p_X8_troubleWith x1 τ)  : tw_Ci E 2 mX8_troubleWith [.ref 0, .int x1] τ (f_X8_troubleWith x1 τ) (τ) := by
  unfold p_X8_troubleWith at hp
  refine ct_of (by decide) (by simp [Value.category]) (Nat.le_of_ble_eq_true rfl) (fun K hE F => ?_)
  subst hE
  refine rw_iload_n F dc_X8_troubleWith_0 rfl ?_
  refine rw_iconst (v := 0) F dc_X8_troubleWith_1 rfl ?_
  refine rw_iconst (v := 3) F dc_X8_troubleWith_2 rfl ?_
  refine rw_cSi F [_, _, _] dc_X8_troubleWith_3 ms_X8_within ml_RX8_97 (by decide)  rfl rfl (Nat.le_of_ble_eq_true rfl) ct_X8_within ?_
  refine rw_if_ne (tgt := 12) F dc_X8_troubleWith_6 rfl (fun c1 => ?_) (fun c1 => ?_)
  · rw [if_neg c1] at hp
    refine rw_aload_n F dc_X8_troubleWith_12 rfl ?_
    refine rw_getR F dc_X8_troubleWith_13 fl_RX8_32 (by first | rfl | assumption | decide | exact r73_k (by assumption) | exact fb_k (by assumption) | exact sb_k (by assumption) | exact tb_k (by assumption) | exact sb_li (by assumption) | exact sb_s (by assumption) | exact tb_n (by assumption) | exact fb_k (sb_f (by assumption))) (by first | rfl | assumption | exact lk6 (by assumption) _ | exact lk2 (by assumption) _ | exact fb_l0 (by assumption) | exact fb_l1 (by assumption) | exact sb_l0 (by assumption) | exact sb_l1 (by assumption) | exact sb_l2 (by assumption) | exact sb_l3 (by assumption) | exact tb_l0 (by assumption) | exact tb_l1 (by assumption) | exact tb_l2 (by assumption) | exact lk2 (sb_li (by assumption)) _ | exact fb_l0 (sb_f (by assumption)) | exact fb_l1 (sb_f (by assumption))) ?_
    refine rw_iload_n F dc_X8_troubleWith_16 rfl ?_
    obtain ⟨hs2, hp⟩ := hp
    refine rw_aaSheet F dc_X8_troubleWith_17 hs2 (fun hk3 => ?_)
    refine rw_cVi F [] dc_X8_troubleWith_18 mv_X5_isMissing ml_RX8_320 (by decide) (rc_5 (by first | rfl | assumption | decide | exact r73_k (by assumption) | exact fb_k (by assumption) | exact sb_k (by assumption) | exact tb_k (by assumption) | exact sb_li (by assumption) | exact sb_s (by assumption) | exact tb_n (by assumption) | exact fb_k (sb_f (by assumption)))) rfl rfl (Nat.le_of_ble_eq_true rfl) ct_X5_isMissing ?_
    refine rw_if_eq (tgt := 30) F dc_X8_troubleWith_21 rfl (fun c4 => ?_) (fun c4 => ?_)
    · refine rw_iconst (v := 0) F dc_X8_troubleWith_30 rfl ?_
      refine rw_iret F dc_X8_troubleWith_31 rfl rfl ?_
      exact ⟨by first | (simp only [f_X8_troubleWith, if_neg c1, if_pos c4]; done) | rfl | (simp only [f_X8_troubleWith, if_neg c1, if_pos c4]; rfl), by first | (simp only [f_X8_troubleWith, if_neg c1, if_pos c4]; done) | rfl | (simp only [f_X8_troubleWith, if_neg c1, if_pos c4]; rfl)⟩
    · refine rw_ldcw F dc_X8_troubleWith_24 kc_RX8_283 ?_
      refine rw_goto (tgt := 31) F dc_X8_troubleWith_27 rfl ?_
      refine rw_iret F dc_X8_troubleWith_31 rfl rfl ?_
      exact ⟨by first | (simp only [f_X8_troubleWith, if_neg c1, if_neg c4]; done) | rfl | (simp only [f_X8_troubleWith, if_neg c1, if_neg c4]; rfl), by first | (simp only [f_X8_troubleWith, if_neg c1, if_neg c4]; done) | rfl | (simp only [f_X8_troubleWith, if_neg c1, if_neg c4]; rfl)⟩
  · rw [if_pos c1] at hp
    refine rw_ldc F dc_X8_troubleWith_9 kc_RX8_82 ?_
    refine rw_iret F dc_X8_troubleWith_11 rfl rfl ?_
    exact ⟨by first | (simp only [f_X8_troubleWith, if_pos c1]; done) | rfl | (simp only [f_X8_troubleWith, if_pos c1]; rfl), by first | (simp only [f_X8_troubleWith, if_pos c1]; done) | rfl | (simp only [f_X8_troubleWith, if_pos c1]; rfl)⟩
def f_X8_troubleWithEither  (x1 : Int32) (x2 : Int32) (τ : tw_T) : Int32 := if (f_X8_within x1 0 3 τ) = (0 : Int32) then ((-1000001)) else (if (f_X8_within x2 0 3 τ) = (0 : Int32) then ((-1000001)) else (if (f_X5_isMissing (182 + 2 * x1.toNatClampNeg) τ) = (0 : Int32) then (if (f_X5_isMissing (182 + 2 * x2.toNatClampNeg) τ) = (0 : Int32) then 0 else ((-1000006))) else ((-1000006))))
def p_X8_troubleWithEither  (x1 : Int32) (x2 : Int32) (τ : tw_T) : Prop := if (f_X8_within x1 0 3 τ) = (0 : Int32) then True else (if (f_X8_within x2 0 3 τ) = (0 : Int32) then True else (vp_in x1 4 ∧ (if (f_X5_isMissing (182 + 2 * x1.toNatClampNeg) τ) = (0 : Int32) then (vp_in x2 4 ∧ True) else True)))
theorem ct_X8_troubleWithEither {E : tw_E}   {x1 : Int32} {x2 : Int32} {τ : tw_T} (hp : p_X8_troubleWithEither x1 x2 τ)  : tw_Ci E 2 mX8_troubleWithEither [.ref 0, .int x1, .int x2] τ (f_X8_troubleWithEither x1 x2 τ) (τ) := by
  unfold p_X8_troubleWithEither at hp
  refine ct_of (by decide) (by simp [Value.category]) (Nat.le_of_ble_eq_true rfl) (fun K hE F => ?_)
  subst hE
  refine rw_iload_n F dc_X8_troubleWithEither_0 rfl ?_
  refine rw_iconst (v := 0) F dc_X8_troubleWithEither_1 rfl ?_
  refine rw_iconst (v := 3) F dc_X8_troubleWithEither_2 rfl ?_
  refine rw_cSi F [_, _, _] dc_X8_troubleWithEither_3 ms_X8_within ml_RX8_97 (by decide)  rfl rfl (Nat.le_of_ble_eq_true rfl) ct_X8_within ?_
  refine rw_if_eq (tgt := 18) F dc_X8_troubleWithEither_6 rfl (fun c1 => ?_) (fun c1 => ?_)
  · rw [if_pos c1] at hp
    refine rw_ldc F dc_X8_troubleWithEither_18 kc_RX8_82 ?_
    refine rw_iret F dc_X8_troubleWithEither_20 rfl rfl ?_
    exact ⟨by first | (simp only [f_X8_troubleWithEither, if_pos c1]; done) | rfl | (simp only [f_X8_troubleWithEither, if_pos c1]; rfl), by first | (simp only [f_X8_troubleWithEither, if_pos c1]; done) | rfl | (simp only [f_X8_troubleWithEither, if_pos c1]; rfl)⟩
  · rw [if_neg c1] at hp
    refine rw_iload_n F dc_X8_troubleWithEither_9 rfl ?_
    refine rw_iconst (v := 0) F dc_X8_troubleWithEither_10 rfl ?_
    refine rw_iconst (v := 3) F dc_X8_troubleWithEither_11 rfl ?_
    refine rw_cSi F [_, _, _] dc_X8_troubleWithEither_12 ms_X8_within ml_RX8_97 (by decide)  rfl rfl (Nat.le_of_ble_eq_true rfl) ct_X8_within ?_
    refine rw_if_ne (tgt := 21) F dc_X8_troubleWithEither_15 rfl (fun c2 => ?_) (fun c2 => ?_)
    · rw [if_neg c2] at hp
      refine rw_aload_n F dc_X8_troubleWithEither_21 rfl ?_
      refine rw_getR F dc_X8_troubleWithEither_22 fl_RX8_32 (by first | rfl | assumption | decide | exact r73_k (by assumption) | exact fb_k (by assumption) | exact sb_k (by assumption) | exact tb_k (by assumption) | exact sb_li (by assumption) | exact sb_s (by assumption) | exact tb_n (by assumption) | exact fb_k (sb_f (by assumption))) (by first | rfl | assumption | exact lk6 (by assumption) _ | exact lk2 (by assumption) _ | exact fb_l0 (by assumption) | exact fb_l1 (by assumption) | exact sb_l0 (by assumption) | exact sb_l1 (by assumption) | exact sb_l2 (by assumption) | exact sb_l3 (by assumption) | exact tb_l0 (by assumption) | exact tb_l1 (by assumption) | exact tb_l2 (by assumption) | exact lk2 (sb_li (by assumption)) _ | exact fb_l0 (sb_f (by assumption)) | exact fb_l1 (sb_f (by assumption))) ?_
      refine rw_iload_n F dc_X8_troubleWithEither_25 rfl ?_
      obtain ⟨hs3, hp⟩ := hp
      refine rw_aaSheet F dc_X8_troubleWithEither_26 hs3 (fun hk4 => ?_)
      refine rw_cVi F [] dc_X8_troubleWithEither_27 mv_X5_isMissing ml_RX8_320 (by decide) (rc_5 (by first | rfl | assumption | decide | exact r73_k (by assumption) | exact fb_k (by assumption) | exact sb_k (by assumption) | exact tb_k (by assumption) | exact sb_li (by assumption) | exact sb_s (by assumption) | exact tb_n (by assumption) | exact fb_k (sb_f (by assumption)))) rfl rfl (Nat.le_of_ble_eq_true rfl) ct_X5_isMissing ?_
      refine rw_if_ne (tgt := 45) F dc_X8_troubleWithEither_30 rfl (fun c5 => ?_) (fun c5 => ?_)
      · rw [if_neg c5] at hp
        refine rw_ldcw F dc_X8_troubleWithEither_45 kc_RX8_283 ?_
        refine rw_goto (tgt := 52) F dc_X8_troubleWithEither_48 rfl ?_
        refine rw_iret F dc_X8_troubleWithEither_52 rfl rfl ?_
        exact ⟨by first | (simp only [f_X8_troubleWithEither, if_neg c1, if_neg c2, if_neg c5]; done) | rfl | (simp only [f_X8_troubleWithEither, if_neg c1, if_neg c2, if_neg c5]; rfl), by first | (simp only [f_X8_troubleWithEither, if_neg c1, if_neg c2, if_neg c5]; done) | rfl | (simp only [f_X8_troubleWithEither, if_neg c1, if_neg c2, if_neg c5]; rfl)⟩
      · rw [if_pos c5] at hp
        refine rw_aload_n F dc_X8_troubleWithEither_33 rfl ?_
        refine rw_getR F dc_X8_troubleWithEither_34 fl_RX8_32 (by first | rfl | assumption | decide | exact r73_k (by assumption) | exact fb_k (by assumption) | exact sb_k (by assumption) | exact tb_k (by assumption) | exact sb_li (by assumption) | exact sb_s (by assumption) | exact tb_n (by assumption) | exact fb_k (sb_f (by assumption))) (by first | rfl | assumption | exact lk6 (by assumption) _ | exact lk2 (by assumption) _ | exact fb_l0 (by assumption) | exact fb_l1 (by assumption) | exact sb_l0 (by assumption) | exact sb_l1 (by assumption) | exact sb_l2 (by assumption) | exact sb_l3 (by assumption) | exact tb_l0 (by assumption) | exact tb_l1 (by assumption) | exact tb_l2 (by assumption) | exact lk2 (sb_li (by assumption)) _ | exact fb_l0 (sb_f (by assumption)) | exact fb_l1 (sb_f (by assumption))) ?_
        refine rw_iload_n F dc_X8_troubleWithEither_37 rfl ?_
        obtain ⟨hs6, hp⟩ := hp
        refine rw_aaSheet F dc_X8_troubleWithEither_38 hs6 (fun hk7 => ?_)
        refine rw_cVi F [] dc_X8_troubleWithEither_39 mv_X5_isMissing ml_RX8_320 (by decide) (rc_5 (by first | rfl | assumption | decide | exact r73_k (by assumption) | exact fb_k (by assumption) | exact sb_k (by assumption) | exact tb_k (by assumption) | exact sb_li (by assumption) | exact sb_s (by assumption) | exact tb_n (by assumption) | exact fb_k (sb_f (by assumption)))) rfl rfl (Nat.le_of_ble_eq_true rfl) ct_X5_isMissing ?_
        refine rw_if_eq (tgt := 51) F dc_X8_troubleWithEither_42 rfl (fun c8 => ?_) (fun c8 => ?_)
        · refine rw_iconst (v := 0) F dc_X8_troubleWithEither_51 rfl ?_
          refine rw_iret F dc_X8_troubleWithEither_52 rfl rfl ?_
          exact ⟨by first | (simp only [f_X8_troubleWithEither, if_neg c1, if_neg c2, if_pos c5, if_pos c8]; done) | rfl | (simp only [f_X8_troubleWithEither, if_neg c1, if_neg c2, if_pos c5, if_pos c8]; rfl), by first | (simp only [f_X8_troubleWithEither, if_neg c1, if_neg c2, if_pos c5, if_pos c8]; done) | rfl | (simp only [f_X8_troubleWithEither, if_neg c1, if_neg c2, if_pos c5, if_pos c8]; rfl)⟩
        · refine rw_ldcw F dc_X8_troubleWithEither_45 kc_RX8_283 ?_
          refine rw_goto (tgt := 52) F dc_X8_troubleWithEither_48 rfl ?_
          refine rw_iret F dc_X8_troubleWithEither_52 rfl rfl ?_
          exact ⟨by first | (simp only [f_X8_troubleWithEither, if_neg c1, if_neg c2, if_pos c5, if_neg c8]; done) | rfl | (simp only [f_X8_troubleWithEither, if_neg c1, if_neg c2, if_pos c5, if_neg c8]; rfl), by first | (simp only [f_X8_troubleWithEither, if_neg c1, if_neg c2, if_pos c5, if_neg c8]; done) | rfl | (simp only [f_X8_troubleWithEither, if_neg c1, if_neg c2, if_pos c5, if_neg c8]; rfl)⟩
    · rw [if_pos c2] at hp
      refine rw_ldc F dc_X8_troubleWithEither_18 kc_RX8_82 ?_
      refine rw_iret F dc_X8_troubleWithEither_20 rfl rfl ?_
      exact ⟨by first | (simp only [f_X8_troubleWithEither, if_neg c1, if_pos c2]; done) | rfl | (simp only [f_X8_troubleWithEither, if_neg c1, if_pos c2]; rfl), by first | (simp only [f_X8_troubleWithEither, if_neg c1, if_pos c2]; done) | rfl | (simp only [f_X8_troubleWithEither, if_neg c1, if_pos c2]; rfl)⟩
def lf_X8_fewestToKeep_10 (N : Nat)  : Nat → Int32 → Int32 → Int32 → Int32 → Int32 → tw_T → Int32
  | 0, _, _, _, _, _, _ => 0
  | n + 1, x1, x2, x3, x4, x5, τ => if ((1 : Int32) <<< (x1 &&& 31)) ≤ x5 then x3 else (if x4 ≤ (f_J6_bitCount_0f7a4 x5 τ) then (lf_X8_fewestToKeep_10 N n x1 x2 x3 x4 (x5 + 1) τ) else (if x2 < (f_X8_gainWithout N x5 x1 τ) then (lf_X8_fewestToKeep_10 N n x1 x2 x3 x4 (x5 + 1) τ) else (lf_X8_fewestToKeep_10 N n x1 x2 x5 (f_J6_bitCount_0f7a4 x5 τ) (x5 + 1) τ)))
def lo_X8_fewestToKeep_10 (N : Nat)  : Nat → Int32 → Int32 → Int32 → Int32 → Int32 → tw_T → Prop
  | 0, _, _, _, _, _, _ => False
  | n + 1, x1, x2, x3, x4, x5, τ => if ((1 : Int32) <<< (x1 &&& 31)) ≤ x5 then True else (if x4 ≤ (f_J6_bitCount_0f7a4 x5 τ) then (lo_X8_fewestToKeep_10 N n x1 x2 x3 x4 (x5 + 1) τ) else (p_X8_gainWithout N x5 x1 τ ∧ (if x2 < (f_X8_gainWithout N x5 x1 τ) then (lo_X8_fewestToKeep_10 N n x1 x2 x3 x4 (x5 + 1) τ) else (lo_X8_fewestToKeep_10 N n x1 x2 x5 (f_J6_bitCount_0f7a4 x5 τ) (x5 + 1) τ))))
def f_X8_fewestToKeep (N : Nat)  (x1 : Int32) (x2 : Int32) (τ : tw_T) : Int32 := lf_X8_fewestToKeep_10 N N x1 x2 ((-1)) (x1 + 1) 0 τ
def p_X8_fewestToKeep (N : Nat)  (x1 : Int32) (x2 : Int32) (τ : tw_T) : Prop := lo_X8_fewestToKeep_10 N N x1 x2 ((-1)) (x1 + 1) 0 τ
theorem lp_X8_fewestToKeep_10 {K : tw_K} {Q : Option Value → tw_T → Prop} (F : tw_F K mX8_fewestToKeep 2 Q)   (N : Nat)  : ∀ (n : Nat) (x1 : Int32) (x2 : Int32) (x3 : Int32) (x4 : Int32) (x5 : Int32) (τ : tw_T), lo_X8_fewestToKeep_10 N n x1 x2 x3 x4 x5 τ → Q (some (.int (lf_X8_fewestToKeep_10 N n x1 x2 x3 x4 x5 τ))) τ → tw_R K 10 [.ref 0, .int x1, .int x2, .int x3, .int x4, .int x5, .null] [] τ := by
  intro n
  induction n with
  | zero => intro x1 x2 x3 x4 x5 τ hp _; exact False.elim hp
  | succ n ih =>
    intro x1 x2 x3 x4 x5 τ hp hq
    simp only [lo_X8_fewestToKeep_10] at hp
    simp only [lf_X8_fewestToKeep_10] at hq
    refine rw_iload F dc_X8_fewestToKeep_10 rfl ?_
    refine rw_iconst (v := 1) F dc_X8_fewestToKeep_12 rfl ?_
    refine rw_iload_n F dc_X8_fewestToKeep_13 rfl ?_
    refine rw_ishl F dc_X8_fewestToKeep_14 ?_
    refine rw_icmp_ge (tgt := 56) F dc_X8_fewestToKeep_15 rfl (fun c1 => ?_) (fun c1 => ?_)
    · rw [if_pos c1] at hp
      refine rw_iload_n F dc_X8_fewestToKeep_56 rfl ?_
      refine rw_iret F dc_X8_fewestToKeep_57 rfl rfl ?_
      exact (by simpa only [if_pos c1] using hq)
    · rw [if_neg c1] at hp
      refine rw_iload F dc_X8_fewestToKeep_18 rfl ?_
      refine rw_cSi F [_] dc_X8_fewestToKeep_20 ms_J6_bitCount_0f7a4 ml_RX8_170 (by decide)  rfl rfl (Nat.le_of_ble_eq_true rfl) ct_J6_bitCount_0f7a4 ?_
      refine rw_istore F dc_X8_fewestToKeep_23 (by decide) rfl ?_
      refine rw_iload F dc_X8_fewestToKeep_25 rfl ?_
      refine rw_iload F dc_X8_fewestToKeep_27 rfl ?_
      refine rw_icmp_ge (tgt := 50) F dc_X8_fewestToKeep_29 rfl (fun c2 => ?_) (fun c2 => ?_)
      · rw [if_pos c2] at hp
        refine rw_inc (n1 := 1) F dc_X8_fewestToKeep_50 rfl rfl (by decide) rfl ?_
        refine rw_goto (tgt := 10) F dc_X8_fewestToKeep_53 rfl ?_
        refine rw_nul 6 ?_
        exact ih _ _ _ _ _ _ hp (by simpa only [if_neg c1, if_pos c2] using hq)
      · rw [if_neg c2] at hp
        refine rw_aload_n F dc_X8_fewestToKeep_32 rfl ?_
        refine rw_iload F dc_X8_fewestToKeep_33 rfl ?_
        refine rw_iload_n F dc_X8_fewestToKeep_35 rfl ?_
        obtain ⟨hs3, hp⟩ := hp
        refine rw_cVi F [_, _] dc_X8_fewestToKeep_36 mv_X8_gainWithout ml_RX8_329 (by decide) (rc_8 (by first | rfl | assumption | decide | exact r73_k (by assumption) | exact fb_k (by assumption) | exact sb_k (by assumption) | exact tb_k (by assumption) | exact sb_li (by assumption) | exact sb_s (by assumption) | exact tb_n (by assumption) | exact fb_k (sb_f (by assumption)))) rfl rfl (Nat.le_of_ble_eq_true rfl) (cr_X8_gainWithout hs3) ?_
        refine rw_iload_n F dc_X8_fewestToKeep_39 rfl ?_
        refine rw_icmp_gt (tgt := 50) F dc_X8_fewestToKeep_40 rfl (fun c4 => ?_) (fun c4 => ?_)
        · rw [if_pos c4] at hp
          refine rw_inc (n1 := 1) F dc_X8_fewestToKeep_50 rfl rfl (by decide) rfl ?_
          refine rw_goto (tgt := 10) F dc_X8_fewestToKeep_53 rfl ?_
          refine rw_nul 6 ?_
          exact ih _ _ _ _ _ _ hp (by simpa only [if_neg c1, if_neg c2, if_pos c4] using hq)
        · rw [if_neg c4] at hp
          refine rw_iload F dc_X8_fewestToKeep_43 rfl ?_
          refine rw_istore_n F dc_X8_fewestToKeep_45 (by decide) rfl ?_
          refine rw_iload F dc_X8_fewestToKeep_46 rfl ?_
          refine rw_istore F dc_X8_fewestToKeep_48 (by decide) rfl ?_
          refine rw_inc (n1 := 1) F dc_X8_fewestToKeep_50 rfl rfl (by decide) rfl ?_
          refine rw_goto (tgt := 10) F dc_X8_fewestToKeep_53 rfl ?_
          refine rw_nul 6 ?_
          exact ih _ _ _ _ _ _ hp (by simpa only [if_neg c1, if_neg c2, if_neg c4] using hq)
theorem cr_X8_fewestToKeep {E : tw_E}  {N : Nat}  {x1 : Int32} {x2 : Int32} {τ : tw_T} (hp : p_X8_fewestToKeep N x1 x2 τ)  : tw_Ci E 2 mX8_fewestToKeep [.ref 0, .int x1, .int x2] τ (f_X8_fewestToKeep N x1 x2 τ) (τ) := by
  unfold p_X8_fewestToKeep at hp
  refine ct_of (by decide) (by simp [Value.category]) (Nat.le_of_ble_eq_true rfl) (fun K hE F => ?_)
  subst hE
  refine rw_iconst (v := (-1)) F dc_X8_fewestToKeep_0 rfl ?_
  refine rw_istore_n F dc_X8_fewestToKeep_1 (by decide) rfl ?_
  refine rw_iload_n F dc_X8_fewestToKeep_2 rfl ?_
  refine rw_iconst (v := 1) F dc_X8_fewestToKeep_3 rfl ?_
  refine rw_iadd F dc_X8_fewestToKeep_4 ?_
  refine rw_istore F dc_X8_fewestToKeep_5 (by decide) rfl ?_
  refine rw_iconst (v := 0) F dc_X8_fewestToKeep_7 rfl ?_
  refine rw_istore F dc_X8_fewestToKeep_8 (by decide) rfl ?_
  exact lp_X8_fewestToKeep_10 F  N N _ _ _ _ _ _ hp ⟨by first | (simp only [f_X8_fewestToKeep]; done) | rfl | (simp only [f_X8_fewestToKeep]; rfl), by first | (simp only [f_X8_fewestToKeep]; done) | rfl | (simp only [f_X8_fewestToKeep]; rfl)⟩
def lf_X8_isUnder_4 (N : Nat)  : Nat → Int32 → Int32 → Int32 → Int32 → tw_T → Int32
  | 0, _, _, _, _, _ => 0
  | n + 1, x0, x1, x2, x3, τ => if (6 : Int32) < x3 then 0 else (if (f_X8_within x2 0 6 τ) = (0 : Int32) then 0 else (if x2 = x1 then 1 else (lf_X8_isUnder_4 N n x0 x1 (tw_up.getD x2.toNatClampNeg 0) (x3 + 1) τ)))
def lo_X8_isUnder_4 (N : Nat)  : Nat → Int32 → Int32 → Int32 → Int32 → tw_T → Prop
  | 0, _, _, _, _, _ => False
  | n + 1, x0, x1, x2, x3, τ => if (6 : Int32) < x3 then True else (if (f_X8_within x2 0 6 τ) = (0 : Int32) then True else (if x2 = x1 then True else (vp_in x2 7 ∧ (lo_X8_isUnder_4 N n x0 x1 (tw_up.getD x2.toNatClampNeg 0) (x3 + 1) τ))))
def f_X8_isUnder (N : Nat)  (x0 : Int32) (x1 : Int32) (τ : tw_T) : Int32 := lf_X8_isUnder_4 N N x0 x1 x0 0 τ
def p_X8_isUnder (N : Nat)  (x0 : Int32) (x1 : Int32) (τ : tw_T) : Prop := lo_X8_isUnder_4 N N x0 x1 x0 0 τ
theorem lp_X8_isUnder_4 {K : tw_K} {Q : Option Value → tw_T → Prop} (F : tw_F K mX8_isUnder 2 Q)   (N : Nat)  : ∀ (n : Nat) (x0 : Int32) (x1 : Int32) (x2 : Int32) (x3 : Int32) (τ : tw_T), lo_X8_isUnder_4 N n x0 x1 x2 x3 τ → Q (some (.int (lf_X8_isUnder_4 N n x0 x1 x2 x3 τ))) τ → tw_R K 4 [.int x0, .int x1, .int x2, .int x3] [] τ := by
  intro n
  induction n with
  | zero => intro x0 x1 x2 x3 τ hp _; exact False.elim hp
  | succ n ih =>
    intro x0 x1 x2 x3 τ hp hq
    simp only [lo_X8_isUnder_4] at hp
    simp only [lf_X8_isUnder_4] at hq
    refine rw_iload_n F dc_X8_isUnder_4 rfl ?_
    refine rw_bipush (v := 6) F dc_X8_isUnder_5 rfl ?_
    refine rw_icmp_gt (tgt := 39) F dc_X8_isUnder_7 rfl (fun c1 => ?_) (fun c1 => ?_)
    · rw [if_pos c1] at hp
      refine rw_iconst (v := 0) F dc_X8_isUnder_39 rfl ?_
      refine rw_iret F dc_X8_isUnder_40 rfl rfl ?_
      exact (by simpa only [if_pos c1] using hq)
    · rw [if_neg c1] at hp
      refine rw_iload_n F dc_X8_isUnder_10 rfl ?_
      refine rw_iconst (v := 0) F dc_X8_isUnder_11 rfl ?_
      refine rw_bipush (v := 6) F dc_X8_isUnder_12 rfl ?_
      refine rw_cSi F [_, _, _] dc_X8_isUnder_14 ms_X8_within ml_RX8_97 (by decide)  rfl rfl (Nat.le_of_ble_eq_true rfl) ct_X8_within ?_
      refine rw_if_eq (tgt := 39) F dc_X8_isUnder_17 rfl (fun c2 => ?_) (fun c2 => ?_)
      · rw [if_pos c2] at hp
        refine rw_iconst (v := 0) F dc_X8_isUnder_39 rfl ?_
        refine rw_iret F dc_X8_isUnder_40 rfl rfl ?_
        exact (by simpa only [if_neg c1, if_pos c2] using hq)
      · rw [if_neg c2] at hp
        refine rw_iload_n F dc_X8_isUnder_20 rfl ?_
        refine rw_iload_n F dc_X8_isUnder_21 rfl ?_
        refine rw_icmp_ne (tgt := 27) F dc_X8_isUnder_22 rfl (fun c3 => ?_) (fun c3 => ?_)
        · rw [if_neg c3] at hp
          refine rw_getU F dc_X8_isUnder_27 fw_RX8_332 ?_
          refine rw_iload_n F dc_X8_isUnder_30 rfl ?_
          obtain ⟨hs4, hp⟩ := hp
          refine rw_upk F dc_X8_isUnder_31 hs4 ?_
          refine rw_istore_n F dc_X8_isUnder_32 (by decide) rfl ?_
          refine rw_inc (n1 := 1) F dc_X8_isUnder_33 rfl rfl (by decide) rfl ?_
          refine rw_goto (tgt := 4) F dc_X8_isUnder_36 rfl ?_
          exact ih _ _ _ _ _ hp (by simpa only [if_neg c1, if_neg c2, if_neg c3] using hq)
        · rw [if_pos c3] at hp
          refine rw_iconst (v := 1) F dc_X8_isUnder_25 rfl ?_
          refine rw_iret F dc_X8_isUnder_26 rfl rfl ?_
          exact (by simpa only [if_neg c1, if_neg c2, if_pos c3] using hq)
theorem cr_X8_isUnder {E : tw_E}  {N : Nat}  {x0 : Int32} {x1 : Int32} {τ : tw_T} (hp : p_X8_isUnder N x0 x1 τ)  : tw_Ci E 2 mX8_isUnder [.int x0, .int x1] τ (f_X8_isUnder N x0 x1 τ) (τ) := by
  unfold p_X8_isUnder at hp
  refine ct_of (by decide) (by simp [Value.category]) (Nat.le_of_ble_eq_true rfl) (fun K hE F => ?_)
  subst hE
  refine rw_iload_n F dc_X8_isUnder_0 rfl ?_
  refine rw_istore_n F dc_X8_isUnder_1 (by decide) rfl ?_
  refine rw_iconst (v := 0) F dc_X8_isUnder_2 rfl ?_
  refine rw_istore_n F dc_X8_isUnder_3 (by decide) rfl ?_
  exact lp_X8_isUnder_4 F  N N _ _ _ _ _ hp ⟨by first | (simp only [f_X8_isUnder]; done) | rfl | (simp only [f_X8_isUnder]; rfl), by first | (simp only [f_X8_isUnder]; done) | rfl | (simp only [f_X8_isUnder]; rfl)⟩
def f_X8_ship  (x1 : Int32) (x2 : Int32) (τ : tw_T) : Int32 := if (f_X8_within x1 0 6 τ) = (0 : Int32) then ((-1000001)) else (if (f_X8_within x2 0 23 τ) = (0 : Int32) then ((-1000001)) else (if (f_X1_isFull 3 τ) = (0 : Int32) then (((g_X1_launch 3 x1 x2 τ) 3 1) - 1) else ((-1000002))))
def g_X8_ship  (x1 : Int32) (x2 : Int32) (τ : tw_T) : tw_T := if (f_X8_within x1 0 6 τ) = (0 : Int32) then (g_X8_found ((-1000001)) τ) else (if (f_X8_within x2 0 23 τ) = (0 : Int32) then (g_X8_found ((-1000001)) τ) else (if (f_X1_isFull 3 τ) = (0 : Int32) then (g_X1_launch 3 x1 x2 τ) else (g_X8_found ((-1000002)) τ)))
def p_X8_ship  (x1 : Int32) (x2 : Int32) (τ : tw_T) : Prop := if (f_X8_within x1 0 6 τ) = (0 : Int32) then True else (if (f_X8_within x2 0 23 τ) = (0 : Int32) then True else (if (f_X1_isFull 3 τ) = (0 : Int32) then (p_X1_launch 3 x1 x2 τ ∧ True) else True))
theorem ct_X8_ship {E : tw_E}   {x1 : Int32} {x2 : Int32} {τ : tw_T} (hp : p_X8_ship x1 x2 τ)  : tw_Ci E 3 mX8_ship [.ref 0, .int x1, .int x2] τ (f_X8_ship x1 x2 τ) (g_X8_ship x1 x2 τ) := by
  unfold p_X8_ship at hp
  refine ct_of (by decide) (by simp [Value.category]) (Nat.le_of_ble_eq_true rfl) (fun K hE F => ?_)
  subst hE
  refine rw_iload_n F dc_X8_ship_0 rfl ?_
  refine rw_iconst (v := 0) F dc_X8_ship_1 rfl ?_
  refine rw_bipush (v := 6) F dc_X8_ship_2 rfl ?_
  refine rw_cSi F [_, _, _] dc_X8_ship_4 ms_X8_within ml_RX8_97 (by decide)  rfl rfl (Nat.le_of_ble_eq_true rfl) ct_X8_within ?_
  refine rw_if_eq (tgt := 20) F dc_X8_ship_7 rfl (fun c1 => ?_) (fun c1 => ?_)
  · rw [if_pos c1] at hp
    refine rw_aload_n F dc_X8_ship_20 rfl ?_
    refine rw_ldc F dc_X8_ship_21 kc_RX8_82 ?_
    refine rw_cVi F [_] dc_X8_ship_23 mv_X8_found ml_RX8_83 (by decide) (rc_8 (by first | rfl | assumption | decide | exact r73_k (by assumption) | exact fb_k (by assumption) | exact sb_k (by assumption) | exact tb_k (by assumption) | exact sb_li (by assumption) | exact sb_s (by assumption) | exact tb_n (by assumption) | exact fb_k (sb_f (by assumption)))) rfl rfl (Nat.le_of_ble_eq_true rfl) cn_X8_found ?_
    refine rw_iret F dc_X8_ship_26 rfl rfl ?_
    exact ⟨by first | (simp only [f_X8_ship, g_X8_ship, if_pos c1]; done) | rfl | (simp only [f_X8_ship, g_X8_ship, if_pos c1]; rfl), by first | (simp only [f_X8_ship, g_X8_ship, if_pos c1]; done) | rfl | (simp only [f_X8_ship, g_X8_ship, if_pos c1]; rfl)⟩
  · rw [if_neg c1] at hp
    refine rw_iload_n F dc_X8_ship_10 rfl ?_
    refine rw_iconst (v := 0) F dc_X8_ship_11 rfl ?_
    refine rw_bipush (v := 23) F dc_X8_ship_12 rfl ?_
    refine rw_cSi F [_, _, _] dc_X8_ship_14 ms_X8_within ml_RX8_97 (by decide)  rfl rfl (Nat.le_of_ble_eq_true rfl) ct_X8_within ?_
    refine rw_if_ne (tgt := 27) F dc_X8_ship_17 rfl (fun c2 => ?_) (fun c2 => ?_)
    · rw [if_neg c2] at hp
      refine rw_aload_n F dc_X8_ship_27 rfl ?_
      refine rw_getR F dc_X8_ship_28 fl_RX8_12 (by first | rfl | assumption | decide | exact r73_k (by assumption) | exact fb_k (by assumption) | exact sb_k (by assumption) | exact tb_k (by assumption) | exact sb_li (by assumption) | exact sb_s (by assumption) | exact tb_n (by assumption) | exact fb_k (sb_f (by assumption))) (by first | rfl | assumption | exact lk6 (by assumption) _ | exact lk2 (by assumption) _ | exact fb_l0 (by assumption) | exact fb_l1 (by assumption) | exact sb_l0 (by assumption) | exact sb_l1 (by assumption) | exact sb_l2 (by assumption) | exact sb_l3 (by assumption) | exact tb_l0 (by assumption) | exact tb_l1 (by assumption) | exact tb_l2 (by assumption) | exact lk2 (sb_li (by assumption)) _ | exact fb_l0 (sb_f (by assumption)) | exact fb_l1 (sb_f (by assumption))) ?_
      refine rw_getR F dc_X8_ship_31 fl_RX8_101 (by first | rfl | assumption | decide | exact r73_k (by assumption) | exact fb_k (by assumption) | exact sb_k (by assumption) | exact tb_k (by assumption) | exact sb_li (by assumption) | exact sb_s (by assumption) | exact tb_n (by assumption) | exact fb_k (sb_f (by assumption))) (by first | rfl | assumption | exact lk6 (by assumption) _ | exact lk2 (by assumption) _ | exact fb_l0 (by assumption) | exact fb_l1 (by assumption) | exact sb_l0 (by assumption) | exact sb_l1 (by assumption) | exact sb_l2 (by assumption) | exact sb_l3 (by assumption) | exact tb_l0 (by assumption) | exact tb_l1 (by assumption) | exact tb_l2 (by assumption) | exact lk2 (sb_li (by assumption)) _ | exact fb_l0 (sb_f (by assumption)) | exact fb_l1 (sb_f (by assumption))) ?_
      refine rw_cVi F [] dc_X8_ship_34 mv_X1_isFull ml_RX8_105 (by decide) (rc_1 (by first | rfl | assumption | decide | exact r73_k (by assumption) | exact fb_k (by assumption) | exact sb_k (by assumption) | exact tb_k (by assumption) | exact sb_li (by assumption) | exact sb_s (by assumption) | exact tb_n (by assumption) | exact fb_k (sb_f (by assumption)))) rfl rfl (Nat.le_of_ble_eq_true rfl) ct_X1_isFull ?_
      refine rw_if_eq (tgt := 47) F dc_X8_ship_37 rfl (fun c3 => ?_) (fun c3 => ?_)
      · rw [if_pos c3] at hp
        refine rw_aload_n F dc_X8_ship_47 rfl ?_
        refine rw_getR F dc_X8_ship_48 fl_RX8_12 (by first | rfl | assumption | decide | exact r73_k (by assumption) | exact fb_k (by assumption) | exact sb_k (by assumption) | exact tb_k (by assumption) | exact sb_li (by assumption) | exact sb_s (by assumption) | exact tb_n (by assumption) | exact fb_k (sb_f (by assumption))) (by first | rfl | assumption | exact lk6 (by assumption) _ | exact lk2 (by assumption) _ | exact fb_l0 (by assumption) | exact fb_l1 (by assumption) | exact sb_l0 (by assumption) | exact sb_l1 (by assumption) | exact sb_l2 (by assumption) | exact sb_l3 (by assumption) | exact tb_l0 (by assumption) | exact tb_l1 (by assumption) | exact tb_l2 (by assumption) | exact lk2 (sb_li (by assumption)) _ | exact fb_l0 (sb_f (by assumption)) | exact fb_l1 (sb_f (by assumption))) ?_
        refine rw_getR F dc_X8_ship_51 fl_RX8_101 (by first | rfl | assumption | decide | exact r73_k (by assumption) | exact fb_k (by assumption) | exact sb_k (by assumption) | exact tb_k (by assumption) | exact sb_li (by assumption) | exact sb_s (by assumption) | exact tb_n (by assumption) | exact fb_k (sb_f (by assumption))) (by first | rfl | assumption | exact lk6 (by assumption) _ | exact lk2 (by assumption) _ | exact fb_l0 (by assumption) | exact fb_l1 (by assumption) | exact sb_l0 (by assumption) | exact sb_l1 (by assumption) | exact sb_l2 (by assumption) | exact sb_l3 (by assumption) | exact tb_l0 (by assumption) | exact tb_l1 (by assumption) | exact tb_l2 (by assumption) | exact lk2 (sb_li (by assumption)) _ | exact fb_l0 (sb_f (by assumption)) | exact fb_l1 (sb_f (by assumption))) ?_
        refine rw_iload_n F dc_X8_ship_54 rfl ?_
        refine rw_iload_n F dc_X8_ship_55 rfl ?_
        obtain ⟨hs4, hp⟩ := hp
        refine rw_cVv F [_, _] dc_X8_ship_56 mv_X1_launch ml_RX8_112 (by decide) (rc_1 (by first | rfl | assumption | decide | exact r73_k (by assumption) | exact fb_k (by assumption) | exact sb_k (by assumption) | exact tb_k (by assumption) | exact sb_li (by assumption) | exact sb_s (by assumption) | exact tb_n (by assumption) | exact fb_k (sb_f (by assumption)))) rfl rfl (Nat.le_of_ble_eq_true rfl) (ct_X1_launch hs4) ?_
        refine rw_aload_n F dc_X8_ship_59 rfl ?_
        refine rw_getR F dc_X8_ship_60 fl_RX8_12 (by first | rfl | assumption | decide | exact r73_k (by assumption) | exact fb_k (by assumption) | exact sb_k (by assumption) | exact tb_k (by assumption) | exact sb_li (by assumption) | exact sb_s (by assumption) | exact tb_n (by assumption) | exact fb_k (sb_f (by assumption))) (by first | rfl | assumption | exact lk6 (by assumption) _ | exact lk2 (by assumption) _ | exact fb_l0 (by assumption) | exact fb_l1 (by assumption) | exact sb_l0 (by assumption) | exact sb_l1 (by assumption) | exact sb_l2 (by assumption) | exact sb_l3 (by assumption) | exact tb_l0 (by assumption) | exact tb_l1 (by assumption) | exact tb_l2 (by assumption) | exact lk2 (sb_li (by assumption)) _ | exact fb_l0 (sb_f (by assumption)) | exact fb_l1 (sb_f (by assumption))) ?_
        refine rw_getR F dc_X8_ship_63 fl_RX8_101 (by first | rfl | assumption | decide | exact r73_k (by assumption) | exact fb_k (by assumption) | exact sb_k (by assumption) | exact tb_k (by assumption) | exact sb_li (by assumption) | exact sb_s (by assumption) | exact tb_n (by assumption) | exact fb_k (sb_f (by assumption))) (by first | rfl | assumption | exact lk6 (by assumption) _ | exact lk2 (by assumption) _ | exact fb_l0 (by assumption) | exact fb_l1 (by assumption) | exact sb_l0 (by assumption) | exact sb_l1 (by assumption) | exact sb_l2 (by assumption) | exact sb_l3 (by assumption) | exact tb_l0 (by assumption) | exact tb_l1 (by assumption) | exact tb_l2 (by assumption) | exact lk2 (sb_li (by assumption)) _ | exact fb_l0 (sb_f (by assumption)) | exact fb_l1 (sb_f (by assumption))) ?_
        refine rw_getI F dc_X8_ship_66 fl_RX8_115 (by first | rfl | assumption | decide | exact r73_k (by assumption) | exact fb_k (by assumption) | exact sb_k (by assumption) | exact tb_k (by assumption) | exact sb_li (by assumption) | exact sb_s (by assumption) | exact tb_n (by assumption) | exact fb_k (sb_f (by assumption))) (by first | rfl | assumption | exact lk6 (by assumption) _ | exact lk2 (by assumption) _ | exact fb_l0 (by assumption) | exact fb_l1 (by assumption) | exact sb_l0 (by assumption) | exact sb_l1 (by assumption) | exact sb_l2 (by assumption) | exact sb_l3 (by assumption) | exact tb_l0 (by assumption) | exact tb_l1 (by assumption) | exact tb_l2 (by assumption) | exact lk2 (sb_li (by assumption)) _ | exact fb_l0 (sb_f (by assumption)) | exact fb_l1 (sb_f (by assumption))) ?_
        refine rw_iconst (v := 1) F dc_X8_ship_69 rfl ?_
        refine rw_isub F dc_X8_ship_70 ?_
        refine rw_iret F dc_X8_ship_71 rfl rfl ?_
        exact ⟨by first | (simp only [f_X8_ship, g_X8_ship, if_neg c1, if_neg c2, if_pos c3]; done) | rfl | (simp only [f_X8_ship, g_X8_ship, if_neg c1, if_neg c2, if_pos c3]; rfl), by first | (simp only [f_X8_ship, g_X8_ship, if_neg c1, if_neg c2, if_pos c3]; done) | rfl | (simp only [f_X8_ship, g_X8_ship, if_neg c1, if_neg c2, if_pos c3]; rfl)⟩
      · rw [if_neg c3] at hp
        refine rw_aload_n F dc_X8_ship_40 rfl ?_
        refine rw_ldc F dc_X8_ship_41 kc_RX8_111 ?_
        refine rw_cVi F [_] dc_X8_ship_43 mv_X8_found ml_RX8_83 (by decide) (rc_8 (by first | rfl | assumption | decide | exact r73_k (by assumption) | exact fb_k (by assumption) | exact sb_k (by assumption) | exact tb_k (by assumption) | exact sb_li (by assumption) | exact sb_s (by assumption) | exact tb_n (by assumption) | exact fb_k (sb_f (by assumption)))) rfl rfl (Nat.le_of_ble_eq_true rfl) cn_X8_found ?_
        refine rw_iret F dc_X8_ship_46 rfl rfl ?_
        exact ⟨by first | (simp only [f_X8_ship, g_X8_ship, if_neg c1, if_neg c2, if_neg c3]; done) | rfl | (simp only [f_X8_ship, g_X8_ship, if_neg c1, if_neg c2, if_neg c3]; rfl), by first | (simp only [f_X8_ship, g_X8_ship, if_neg c1, if_neg c2, if_neg c3]; done) | rfl | (simp only [f_X8_ship, g_X8_ship, if_neg c1, if_neg c2, if_neg c3]; rfl)⟩
    · rw [if_pos c2] at hp
      refine rw_aload_n F dc_X8_ship_20 rfl ?_
      refine rw_ldc F dc_X8_ship_21 kc_RX8_82 ?_
      refine rw_cVi F [_] dc_X8_ship_23 mv_X8_found ml_RX8_83 (by decide) (rc_8 (by first | rfl | assumption | decide | exact r73_k (by assumption) | exact fb_k (by assumption) | exact sb_k (by assumption) | exact tb_k (by assumption) | exact sb_li (by assumption) | exact sb_s (by assumption) | exact tb_n (by assumption) | exact fb_k (sb_f (by assumption)))) rfl rfl (Nat.le_of_ble_eq_true rfl) cn_X8_found ?_
      refine rw_iret F dc_X8_ship_26 rfl rfl ?_
      exact ⟨by first | (simp only [f_X8_ship, g_X8_ship, if_neg c1, if_pos c2]; done) | rfl | (simp only [f_X8_ship, g_X8_ship, if_neg c1, if_pos c2]; rfl), by first | (simp only [f_X8_ship, g_X8_ship, if_neg c1, if_pos c2]; done) | rfl | (simp only [f_X8_ship, g_X8_ship, if_neg c1, if_pos c2]; rfl)⟩
def f_X8_change  (x1 : Int32) (x2 : Int32) (x3 : Int32) (τ : tw_T) : Int32 := if (f_X8_isShip x1 τ) = (0 : Int32) then ((-1000001)) else (if (f_X6_mayBecome x2 x3 τ) = (0 : Int32) then ((-1000001)) else (f_X6_told (3 + 2 + x1.toNatClampNeg) x2 τ))
def g_X8_change  (x1 : Int32) (x2 : Int32) (x3 : Int32) (τ : tw_T) : tw_T := if (f_X8_isShip x1 τ) = (0 : Int32) then (g_X8_found ((-1000001)) τ) else (if (f_X6_mayBecome x2 x3 τ) = (0 : Int32) then (g_X8_found ((-1000001)) τ) else (g_X6_become (3 + 2 + x1.toNatClampNeg) x2 x3 τ))
def p_X8_change  (x1 : Int32) (x2 : Int32) (x3 : Int32) (τ : tw_T) : Prop := if (f_X8_isShip x1 τ) = (0 : Int32) then True else (if (f_X6_mayBecome x2 x3 τ) = (0 : Int32) then True else (vp_in x1 8 ∧ True))
theorem ct_X8_change {E : tw_E}   {x1 : Int32} {x2 : Int32} {x3 : Int32} {τ : tw_T} (hp : p_X8_change x1 x2 x3 τ)  : tw_Ci E 3 mX8_change [.ref 0, .int x1, .int x2, .int x3] τ (f_X8_change x1 x2 x3 τ) (g_X8_change x1 x2 x3 τ) := by
  unfold p_X8_change at hp
  refine ct_of (by decide) (by simp [Value.category]) (Nat.le_of_ble_eq_true rfl) (fun K hE F => ?_)
  subst hE
  refine rw_aload_n F dc_X8_change_0 rfl ?_
  refine rw_iload_n F dc_X8_change_1 rfl ?_
  refine rw_cVi F [_] dc_X8_change_2 mv_X8_isShip ml_RX8_119 (by decide) (rc_8 (by first | rfl | assumption | decide | exact r73_k (by assumption) | exact fb_k (by assumption) | exact sb_k (by assumption) | exact tb_k (by assumption) | exact sb_li (by assumption) | exact sb_s (by assumption) | exact tb_n (by assumption) | exact fb_k (sb_f (by assumption)))) rfl rfl (Nat.le_of_ble_eq_true rfl) ct_X8_isShip ?_
  refine rw_if_eq (tgt := 16) F dc_X8_change_5 rfl (fun c1 => ?_) (fun c1 => ?_)
  · rw [if_pos c1] at hp
    refine rw_aload_n F dc_X8_change_16 rfl ?_
    refine rw_ldc F dc_X8_change_17 kc_RX8_82 ?_
    refine rw_cVi F [_] dc_X8_change_19 mv_X8_found ml_RX8_83 (by decide) (rc_8 (by first | rfl | assumption | decide | exact r73_k (by assumption) | exact fb_k (by assumption) | exact sb_k (by assumption) | exact tb_k (by assumption) | exact sb_li (by assumption) | exact sb_s (by assumption) | exact tb_n (by assumption) | exact fb_k (sb_f (by assumption)))) rfl rfl (Nat.le_of_ble_eq_true rfl) cn_X8_found ?_
    refine rw_iret F dc_X8_change_22 rfl rfl ?_
    exact ⟨by first | (simp only [f_X8_change, g_X8_change, if_pos c1]; done) | rfl | (simp only [f_X8_change, g_X8_change, if_pos c1]; rfl), by first | (simp only [f_X8_change, g_X8_change, if_pos c1]; done) | rfl | (simp only [f_X8_change, g_X8_change, if_pos c1]; rfl)⟩
  · rw [if_neg c1] at hp
    refine rw_iload_n F dc_X8_change_8 rfl ?_
    refine rw_iload_n F dc_X8_change_9 rfl ?_
    refine rw_cSi F [_, _] dc_X8_change_10 ms_X6_mayBecome ml_RX8_141 (by decide)  rfl rfl (Nat.le_of_ble_eq_true rfl) ct_X6_mayBecome ?_
    refine rw_if_ne (tgt := 23) F dc_X8_change_13 rfl (fun c2 => ?_) (fun c2 => ?_)
    · rw [if_neg c2] at hp
      refine rw_aload_n F dc_X8_change_23 rfl ?_
      refine rw_getR F dc_X8_change_24 fl_RX8_12 (by first | rfl | assumption | decide | exact r73_k (by assumption) | exact fb_k (by assumption) | exact sb_k (by assumption) | exact tb_k (by assumption) | exact sb_li (by assumption) | exact sb_s (by assumption) | exact tb_n (by assumption) | exact fb_k (sb_f (by assumption))) (by first | rfl | assumption | exact lk6 (by assumption) _ | exact lk2 (by assumption) _ | exact fb_l0 (by assumption) | exact fb_l1 (by assumption) | exact sb_l0 (by assumption) | exact sb_l1 (by assumption) | exact sb_l2 (by assumption) | exact sb_l3 (by assumption) | exact tb_l0 (by assumption) | exact tb_l1 (by assumption) | exact tb_l2 (by assumption) | exact lk2 (sb_li (by assumption)) _ | exact fb_l0 (sb_f (by assumption)) | exact fb_l1 (sb_f (by assumption))) ?_
      refine rw_getR F dc_X8_change_27 fl_RX8_101 (by first | rfl | assumption | decide | exact r73_k (by assumption) | exact fb_k (by assumption) | exact sb_k (by assumption) | exact tb_k (by assumption) | exact sb_li (by assumption) | exact sb_s (by assumption) | exact tb_n (by assumption) | exact fb_k (sb_f (by assumption))) (by first | rfl | assumption | exact lk6 (by assumption) _ | exact lk2 (by assumption) _ | exact fb_l0 (by assumption) | exact fb_l1 (by assumption) | exact sb_l0 (by assumption) | exact sb_l1 (by assumption) | exact sb_l2 (by assumption) | exact sb_l3 (by assumption) | exact tb_l0 (by assumption) | exact tb_l1 (by assumption) | exact tb_l2 (by assumption) | exact lk2 (sb_li (by assumption)) _ | exact fb_l0 (sb_f (by assumption)) | exact fb_l1 (sb_f (by assumption))) ?_
      refine rw_getR F dc_X8_change_30 fl_RX8_123 (by first | rfl | assumption | decide | exact r73_k (by assumption) | exact fb_k (by assumption) | exact sb_k (by assumption) | exact tb_k (by assumption) | exact sb_li (by assumption) | exact sb_s (by assumption) | exact tb_n (by assumption) | exact fb_k (sb_f (by assumption))) (by first | rfl | assumption | exact lk6 (by assumption) _ | exact lk2 (by assumption) _ | exact fb_l0 (by assumption) | exact fb_l1 (by assumption) | exact sb_l0 (by assumption) | exact sb_l1 (by assumption) | exact sb_l2 (by assumption) | exact sb_l3 (by assumption) | exact tb_l0 (by assumption) | exact tb_l1 (by assumption) | exact tb_l2 (by assumption) | exact lk2 (sb_li (by assumption)) _ | exact fb_l0 (sb_f (by assumption)) | exact fb_l1 (sb_f (by assumption))) ?_
      refine rw_iload_n F dc_X8_change_33 rfl ?_
      obtain ⟨hs3, hp⟩ := hp
      refine rw_aaShip F dc_X8_change_34 (by first | assumption | exact (show _ ∈ tw_fbL by decide) | exact sb_f (by assumption)) hs3 (fun hk4 => ?_)
      refine rw_astore F dc_X8_change_35 (by decide) rfl ?_
      refine rw_aload F dc_X8_change_37 rfl ?_
      refine rw_iload_n F dc_X8_change_39 rfl ?_
      refine rw_cVi F [_] dc_X8_change_40 mv_X6_told ml_RX8_140 (by decide) (rc_6 (by first | rfl | assumption | decide | exact r73_k (by assumption) | exact fb_k (by assumption) | exact sb_k (by assumption) | exact tb_k (by assumption) | exact sb_li (by assumption) | exact sb_s (by assumption) | exact tb_n (by assumption) | exact fb_k (sb_f (by assumption)))) rfl rfl (Nat.le_of_ble_eq_true rfl) ct_X6_told ?_
      refine rw_istore F dc_X8_change_43 (by decide) rfl ?_
      refine rw_aload F dc_X8_change_45 rfl ?_
      refine rw_iload_n F dc_X8_change_47 rfl ?_
      refine rw_iload_n F dc_X8_change_48 rfl ?_
      refine rw_cVv F [_, _] dc_X8_change_49 mv_X6_become ml_RX8_142 (by decide) (rc_6 (by first | rfl | assumption | decide | exact r73_k (by assumption) | exact fb_k (by assumption) | exact sb_k (by assumption) | exact tb_k (by assumption) | exact sb_li (by assumption) | exact sb_s (by assumption) | exact tb_n (by assumption) | exact fb_k (sb_f (by assumption)))) rfl rfl (Nat.le_of_ble_eq_true rfl) ct_X6_become ?_
      refine rw_iload F dc_X8_change_52 rfl ?_
      refine rw_iret F dc_X8_change_54 rfl rfl ?_
      exact ⟨by first | (simp only [f_X8_change, g_X8_change, if_neg c1, if_neg c2]; done) | rfl | (simp only [f_X8_change, g_X8_change, if_neg c1, if_neg c2]; rfl), by first | (simp only [f_X8_change, g_X8_change, if_neg c1, if_neg c2]; done) | rfl | (simp only [f_X8_change, g_X8_change, if_neg c1, if_neg c2]; rfl)⟩
    · rw [if_pos c2] at hp
      refine rw_aload_n F dc_X8_change_16 rfl ?_
      refine rw_ldc F dc_X8_change_17 kc_RX8_82 ?_
      refine rw_cVi F [_] dc_X8_change_19 mv_X8_found ml_RX8_83 (by decide) (rc_8 (by first | rfl | assumption | decide | exact r73_k (by assumption) | exact fb_k (by assumption) | exact sb_k (by assumption) | exact tb_k (by assumption) | exact sb_li (by assumption) | exact sb_s (by assumption) | exact tb_n (by assumption) | exact fb_k (sb_f (by assumption)))) rfl rfl (Nat.le_of_ble_eq_true rfl) cn_X8_found ?_
      refine rw_iret F dc_X8_change_22 rfl rfl ?_
      exact ⟨by first | (simp only [f_X8_change, g_X8_change, if_neg c1, if_pos c2]; done) | rfl | (simp only [f_X8_change, g_X8_change, if_neg c1, if_pos c2]; rfl), by first | (simp only [f_X8_change, g_X8_change, if_neg c1, if_pos c2]; done) | rfl | (simp only [f_X8_change, g_X8_change, if_neg c1, if_pos c2]; rfl)⟩
def f_X8_who (N : Nat)  (x1 : Int32) (τ : tw_T) : Int32 := if (f_X8_within x1 0 23 τ) = (0 : Int32) then ((-1000001)) else (f_X1_shipsAt N 3 x1 τ)
def g_X8_who (N : Nat)  (x1 : Int32) (τ : tw_T) : tw_T := if (f_X8_within x1 0 23 τ) = (0 : Int32) then (g_X8_found ((-1000001)) τ) else τ
def p_X8_who (N : Nat)  (x1 : Int32) (τ : tw_T) : Prop := if (f_X8_within x1 0 23 τ) = (0 : Int32) then True else (p_X1_shipsAt N 3 x1 τ ∧ True)
theorem ct_X8_who {E : tw_E}  {N : Nat}  {x1 : Int32} {τ : tw_T} (hp : p_X8_who N x1 τ)  : tw_Ci E 3 mX8_who [.ref 0, .int x1] τ (f_X8_who N x1 τ) (g_X8_who N x1 τ) := by
  unfold p_X8_who at hp
  refine ct_of (by decide) (by simp [Value.category]) (Nat.le_of_ble_eq_true rfl) (fun K hE F => ?_)
  subst hE
  refine rw_iload_n F dc_X8_who_0 rfl ?_
  refine rw_iconst (v := 0) F dc_X8_who_1 rfl ?_
  refine rw_bipush (v := 23) F dc_X8_who_2 rfl ?_
  refine rw_cSi F [_, _, _] dc_X8_who_4 ms_X8_within ml_RX8_97 (by decide)  rfl rfl (Nat.le_of_ble_eq_true rfl) ct_X8_within ?_
  refine rw_if_eq (tgt := 24) F dc_X8_who_7 rfl (fun c1 => ?_) (fun c1 => ?_)
  · rw [if_pos c1] at hp
    refine rw_aload_n F dc_X8_who_24 rfl ?_
    refine rw_ldc F dc_X8_who_25 kc_RX8_82 ?_
    refine rw_cVi F [_] dc_X8_who_27 mv_X8_found ml_RX8_83 (by decide) (rc_8 (by first | rfl | assumption | decide | exact r73_k (by assumption) | exact fb_k (by assumption) | exact sb_k (by assumption) | exact tb_k (by assumption) | exact sb_li (by assumption) | exact sb_s (by assumption) | exact tb_n (by assumption) | exact fb_k (sb_f (by assumption)))) rfl rfl (Nat.le_of_ble_eq_true rfl) cn_X8_found ?_
    refine rw_iret F dc_X8_who_30 rfl rfl ?_
    exact ⟨by first | (simp only [f_X8_who, g_X8_who, if_pos c1]; done) | rfl | (simp only [f_X8_who, g_X8_who, if_pos c1]; rfl), by first | (simp only [f_X8_who, g_X8_who, if_pos c1]; done) | rfl | (simp only [f_X8_who, g_X8_who, if_pos c1]; rfl)⟩
  · rw [if_neg c1] at hp
    refine rw_aload_n F dc_X8_who_10 rfl ?_
    refine rw_getR F dc_X8_who_11 fl_RX8_12 (by first | rfl | assumption | decide | exact r73_k (by assumption) | exact fb_k (by assumption) | exact sb_k (by assumption) | exact tb_k (by assumption) | exact sb_li (by assumption) | exact sb_s (by assumption) | exact tb_n (by assumption) | exact fb_k (sb_f (by assumption))) (by first | rfl | assumption | exact lk6 (by assumption) _ | exact lk2 (by assumption) _ | exact fb_l0 (by assumption) | exact fb_l1 (by assumption) | exact sb_l0 (by assumption) | exact sb_l1 (by assumption) | exact sb_l2 (by assumption) | exact sb_l3 (by assumption) | exact tb_l0 (by assumption) | exact tb_l1 (by assumption) | exact tb_l2 (by assumption) | exact lk2 (sb_li (by assumption)) _ | exact fb_l0 (sb_f (by assumption)) | exact fb_l1 (sb_f (by assumption))) ?_
    refine rw_getR F dc_X8_who_14 fl_RX8_101 (by first | rfl | assumption | decide | exact r73_k (by assumption) | exact fb_k (by assumption) | exact sb_k (by assumption) | exact tb_k (by assumption) | exact sb_li (by assumption) | exact sb_s (by assumption) | exact tb_n (by assumption) | exact fb_k (sb_f (by assumption))) (by first | rfl | assumption | exact lk6 (by assumption) _ | exact lk2 (by assumption) _ | exact fb_l0 (by assumption) | exact fb_l1 (by assumption) | exact sb_l0 (by assumption) | exact sb_l1 (by assumption) | exact sb_l2 (by assumption) | exact sb_l3 (by assumption) | exact tb_l0 (by assumption) | exact tb_l1 (by assumption) | exact tb_l2 (by assumption) | exact lk2 (sb_li (by assumption)) _ | exact fb_l0 (sb_f (by assumption)) | exact fb_l1 (sb_f (by assumption))) ?_
    refine rw_iload_n F dc_X8_who_17 rfl ?_
    obtain ⟨hs2, hp⟩ := hp
    refine rw_cVi F [_] dc_X8_who_18 mv_X1_shipsAt ml_RX8_143 (by decide) (rc_1 (by first | rfl | assumption | decide | exact r73_k (by assumption) | exact fb_k (by assumption) | exact sb_k (by assumption) | exact tb_k (by assumption) | exact sb_li (by assumption) | exact sb_s (by assumption) | exact tb_n (by assumption) | exact fb_k (sb_f (by assumption)))) rfl rfl (Nat.le_of_ble_eq_true rfl) (cr_X1_shipsAt hs2) ?_
    refine rw_goto (tgt := 30) F dc_X8_who_21 rfl ?_
    refine rw_iret F dc_X8_who_30 rfl rfl ?_
    exact ⟨by first | (simp only [f_X8_who, g_X8_who, if_neg c1]; done) | rfl | (simp only [f_X8_who, g_X8_who, if_neg c1]; rfl), by first | (simp only [f_X8_who, g_X8_who, if_neg c1]; done) | rfl | (simp only [f_X8_who, g_X8_who, if_neg c1]; rfl)⟩
def f_X8_now (N : Nat)  (x1 : Int32) (τ : tw_T) : Int32 := if x1 = (0 : Int32) then (τ 2 4) else (if x1 = (1 : Int32) then (f_X1_strandedOfAll N 3 τ) else (if x1 = (2 : Int32) then (f_X1_sawOfAll N 3 τ) else (if x1 = (3 : Int32) then (f_X1_shipsInPort N 3 τ) else (if x1 = (4 : Int32) then (f_X1_cellsTaken N 3 τ) else (if x1 = (5 : Int32) then (f_X1_nearestToFirst N 3 τ) else (if x1 = (6 : Int32) then (f_J6_bitCount_0f7a4 (τ 2 3) τ) else ((-1000001))))))))
def g_X8_now (N : Nat)  (x1 : Int32) (τ : tw_T) : tw_T := if x1 = (0 : Int32) then τ else (if x1 = (1 : Int32) then τ else (if x1 = (2 : Int32) then τ else (if x1 = (3 : Int32) then τ else (if x1 = (4 : Int32) then τ else (if x1 = (5 : Int32) then τ else (if x1 = (6 : Int32) then τ else (g_X8_found ((-1000001)) τ)))))))
def p_X8_now (N : Nat)  (x1 : Int32) (τ : tw_T) : Prop := if x1 = (0 : Int32) then True else (if x1 = (1 : Int32) then (p_X1_strandedOfAll N 3 τ ∧ True) else (if x1 = (2 : Int32) then (p_X1_sawOfAll N 3 τ ∧ True) else (if x1 = (3 : Int32) then (p_X1_shipsInPort N 3 τ ∧ True) else (if x1 = (4 : Int32) then (p_X1_cellsTaken N 3 τ ∧ True) else (if x1 = (5 : Int32) then (p_X1_nearestToFirst N 3 τ ∧ True) else True)))))
theorem ct_X8_now {E : tw_E}  {N : Nat}  {x1 : Int32} {τ : tw_T} (hp : p_X8_now N x1 τ)  : tw_Ci E 3 mX8_now [.ref 0, .int x1] τ (f_X8_now N x1 τ) (g_X8_now N x1 τ) := by
  unfold p_X8_now at hp
  refine ct_of (by decide) (by simp [Value.category]) (Nat.le_of_ble_eq_true rfl) (fun K hE F => ?_)
  subst hE
  refine rw_iload_n F dc_X8_now_0 rfl ?_
  refine rw_tswc (0) 0 44 F dc_X8_now_1 rfl rfl rfl (by decide) (fun c1_0 => ?_) (fun c1_0 => ?_)
  · rw [if_pos c1_0] at hp
    refine rw_aload_n F dc_X8_now_44 rfl ?_
    refine rw_getR F dc_X8_now_45 fl_RX8_12 (by first | rfl | assumption | decide | exact r73_k (by assumption) | exact fb_k (by assumption) | exact sb_k (by assumption) | exact tb_k (by assumption) | exact sb_li (by assumption) | exact sb_s (by assumption) | exact tb_n (by assumption) | exact fb_k (sb_f (by assumption))) (by first | rfl | assumption | exact lk6 (by assumption) _ | exact lk2 (by assumption) _ | exact fb_l0 (by assumption) | exact fb_l1 (by assumption) | exact sb_l0 (by assumption) | exact sb_l1 (by assumption) | exact sb_l2 (by assumption) | exact sb_l3 (by assumption) | exact tb_l0 (by assumption) | exact tb_l1 (by assumption) | exact tb_l2 (by assumption) | exact lk2 (sb_li (by assumption)) _ | exact fb_l0 (sb_f (by assumption)) | exact fb_l1 (sb_f (by assumption))) ?_
    refine rw_getR F dc_X8_now_48 fl_RX8_87 (by first | rfl | assumption | decide | exact r73_k (by assumption) | exact fb_k (by assumption) | exact sb_k (by assumption) | exact tb_k (by assumption) | exact sb_li (by assumption) | exact sb_s (by assumption) | exact tb_n (by assumption) | exact fb_k (sb_f (by assumption))) (by first | rfl | assumption | exact lk6 (by assumption) _ | exact lk2 (by assumption) _ | exact fb_l0 (by assumption) | exact fb_l1 (by assumption) | exact sb_l0 (by assumption) | exact sb_l1 (by assumption) | exact sb_l2 (by assumption) | exact sb_l3 (by assumption) | exact tb_l0 (by assumption) | exact tb_l1 (by assumption) | exact tb_l2 (by assumption) | exact lk2 (sb_li (by assumption)) _ | exact fb_l0 (sb_f (by assumption)) | exact fb_l1 (sb_f (by assumption))) ?_
    refine rw_getI F dc_X8_now_51 fl_RX8_127 (by first | rfl | assumption | decide | exact r73_k (by assumption) | exact fb_k (by assumption) | exact sb_k (by assumption) | exact tb_k (by assumption) | exact sb_li (by assumption) | exact sb_s (by assumption) | exact tb_n (by assumption) | exact fb_k (sb_f (by assumption))) (by first | rfl | assumption | exact lk6 (by assumption) _ | exact lk2 (by assumption) _ | exact fb_l0 (by assumption) | exact fb_l1 (by assumption) | exact sb_l0 (by assumption) | exact sb_l1 (by assumption) | exact sb_l2 (by assumption) | exact sb_l3 (by assumption) | exact tb_l0 (by assumption) | exact tb_l1 (by assumption) | exact tb_l2 (by assumption) | exact lk2 (sb_li (by assumption)) _ | exact fb_l0 (sb_f (by assumption)) | exact fb_l1 (sb_f (by assumption))) ?_
    refine rw_iret F dc_X8_now_54 rfl rfl ?_
    exact ⟨by first | (simp only [f_X8_now, g_X8_now, if_pos c1_0]; done) | rfl | (simp only [f_X8_now, g_X8_now, if_pos c1_0]; rfl), by first | (simp only [f_X8_now, g_X8_now, if_pos c1_0]; done) | rfl | (simp only [f_X8_now, g_X8_now, if_pos c1_0]; rfl)⟩
  rw [if_neg c1_0] at hp
  refine rw_tswc (1) 1 55 F dc_X8_now_1 rfl rfl rfl (by decide) (fun c1_1 => ?_) (fun c1_1 => ?_)
  · rw [if_pos c1_1] at hp
    refine rw_aload_n F dc_X8_now_55 rfl ?_
    refine rw_getR F dc_X8_now_56 fl_RX8_12 (by first | rfl | assumption | decide | exact r73_k (by assumption) | exact fb_k (by assumption) | exact sb_k (by assumption) | exact tb_k (by assumption) | exact sb_li (by assumption) | exact sb_s (by assumption) | exact tb_n (by assumption) | exact fb_k (sb_f (by assumption))) (by first | rfl | assumption | exact lk6 (by assumption) _ | exact lk2 (by assumption) _ | exact fb_l0 (by assumption) | exact fb_l1 (by assumption) | exact sb_l0 (by assumption) | exact sb_l1 (by assumption) | exact sb_l2 (by assumption) | exact sb_l3 (by assumption) | exact tb_l0 (by assumption) | exact tb_l1 (by assumption) | exact tb_l2 (by assumption) | exact lk2 (sb_li (by assumption)) _ | exact fb_l0 (sb_f (by assumption)) | exact fb_l1 (sb_f (by assumption))) ?_
    refine rw_getR F dc_X8_now_59 fl_RX8_101 (by first | rfl | assumption | decide | exact r73_k (by assumption) | exact fb_k (by assumption) | exact sb_k (by assumption) | exact tb_k (by assumption) | exact sb_li (by assumption) | exact sb_s (by assumption) | exact tb_n (by assumption) | exact fb_k (sb_f (by assumption))) (by first | rfl | assumption | exact lk6 (by assumption) _ | exact lk2 (by assumption) _ | exact fb_l0 (by assumption) | exact fb_l1 (by assumption) | exact sb_l0 (by assumption) | exact sb_l1 (by assumption) | exact sb_l2 (by assumption) | exact sb_l3 (by assumption) | exact tb_l0 (by assumption) | exact tb_l1 (by assumption) | exact tb_l2 (by assumption) | exact lk2 (sb_li (by assumption)) _ | exact fb_l0 (sb_f (by assumption)) | exact fb_l1 (sb_f (by assumption))) ?_
    obtain ⟨hs2, hp⟩ := hp
    refine rw_cVi F [] dc_X8_now_62 mv_X1_strandedOfAll ml_RX8_151 (by decide) (rc_1 (by first | rfl | assumption | decide | exact r73_k (by assumption) | exact fb_k (by assumption) | exact sb_k (by assumption) | exact tb_k (by assumption) | exact sb_li (by assumption) | exact sb_s (by assumption) | exact tb_n (by assumption) | exact fb_k (sb_f (by assumption)))) rfl rfl (Nat.le_of_ble_eq_true rfl) (cr_X1_strandedOfAll hs2) ?_
    refine rw_iret F dc_X8_now_65 rfl rfl ?_
    exact ⟨by first | (simp only [f_X8_now, g_X8_now, if_neg c1_0, if_pos c1_1]; done) | rfl | (simp only [f_X8_now, g_X8_now, if_neg c1_0, if_pos c1_1]; rfl), by first | (simp only [f_X8_now, g_X8_now, if_neg c1_0, if_pos c1_1]; done) | rfl | (simp only [f_X8_now, g_X8_now, if_neg c1_0, if_pos c1_1]; rfl)⟩
  rw [if_neg c1_1] at hp
  refine rw_tswc (2) 2 66 F dc_X8_now_1 rfl rfl rfl (by decide) (fun c1_2 => ?_) (fun c1_2 => ?_)
  · rw [if_pos c1_2] at hp
    refine rw_aload_n F dc_X8_now_66 rfl ?_
    refine rw_getR F dc_X8_now_67 fl_RX8_12 (by first | rfl | assumption | decide | exact r73_k (by assumption) | exact fb_k (by assumption) | exact sb_k (by assumption) | exact tb_k (by assumption) | exact sb_li (by assumption) | exact sb_s (by assumption) | exact tb_n (by assumption) | exact fb_k (sb_f (by assumption))) (by first | rfl | assumption | exact lk6 (by assumption) _ | exact lk2 (by assumption) _ | exact fb_l0 (by assumption) | exact fb_l1 (by assumption) | exact sb_l0 (by assumption) | exact sb_l1 (by assumption) | exact sb_l2 (by assumption) | exact sb_l3 (by assumption) | exact tb_l0 (by assumption) | exact tb_l1 (by assumption) | exact tb_l2 (by assumption) | exact lk2 (sb_li (by assumption)) _ | exact fb_l0 (sb_f (by assumption)) | exact fb_l1 (sb_f (by assumption))) ?_
    refine rw_getR F dc_X8_now_70 fl_RX8_101 (by first | rfl | assumption | decide | exact r73_k (by assumption) | exact fb_k (by assumption) | exact sb_k (by assumption) | exact tb_k (by assumption) | exact sb_li (by assumption) | exact sb_s (by assumption) | exact tb_n (by assumption) | exact fb_k (sb_f (by assumption))) (by first | rfl | assumption | exact lk6 (by assumption) _ | exact lk2 (by assumption) _ | exact fb_l0 (by assumption) | exact fb_l1 (by assumption) | exact sb_l0 (by assumption) | exact sb_l1 (by assumption) | exact sb_l2 (by assumption) | exact sb_l3 (by assumption) | exact tb_l0 (by assumption) | exact tb_l1 (by assumption) | exact tb_l2 (by assumption) | exact lk2 (sb_li (by assumption)) _ | exact fb_l0 (sb_f (by assumption)) | exact fb_l1 (sb_f (by assumption))) ?_
    obtain ⟨hs3, hp⟩ := hp
    refine rw_cVi F [] dc_X8_now_73 mv_X1_sawOfAll ml_RX8_155 (by decide) (rc_1 (by first | rfl | assumption | decide | exact r73_k (by assumption) | exact fb_k (by assumption) | exact sb_k (by assumption) | exact tb_k (by assumption) | exact sb_li (by assumption) | exact sb_s (by assumption) | exact tb_n (by assumption) | exact fb_k (sb_f (by assumption)))) rfl rfl (Nat.le_of_ble_eq_true rfl) (cr_X1_sawOfAll hs3) ?_
    refine rw_iret F dc_X8_now_76 rfl rfl ?_
    exact ⟨by first | (simp only [f_X8_now, g_X8_now, if_neg c1_0, if_neg c1_1, if_pos c1_2]; done) | rfl | (simp only [f_X8_now, g_X8_now, if_neg c1_0, if_neg c1_1, if_pos c1_2]; rfl), by first | (simp only [f_X8_now, g_X8_now, if_neg c1_0, if_neg c1_1, if_pos c1_2]; done) | rfl | (simp only [f_X8_now, g_X8_now, if_neg c1_0, if_neg c1_1, if_pos c1_2]; rfl)⟩
  rw [if_neg c1_2] at hp
  refine rw_tswc (3) 3 77 F dc_X8_now_1 rfl rfl rfl (by decide) (fun c1_3 => ?_) (fun c1_3 => ?_)
  · rw [if_pos c1_3] at hp
    refine rw_aload_n F dc_X8_now_77 rfl ?_
    refine rw_getR F dc_X8_now_78 fl_RX8_12 (by first | rfl | assumption | decide | exact r73_k (by assumption) | exact fb_k (by assumption) | exact sb_k (by assumption) | exact tb_k (by assumption) | exact sb_li (by assumption) | exact sb_s (by assumption) | exact tb_n (by assumption) | exact fb_k (sb_f (by assumption))) (by first | rfl | assumption | exact lk6 (by assumption) _ | exact lk2 (by assumption) _ | exact fb_l0 (by assumption) | exact fb_l1 (by assumption) | exact sb_l0 (by assumption) | exact sb_l1 (by assumption) | exact sb_l2 (by assumption) | exact sb_l3 (by assumption) | exact tb_l0 (by assumption) | exact tb_l1 (by assumption) | exact tb_l2 (by assumption) | exact lk2 (sb_li (by assumption)) _ | exact fb_l0 (sb_f (by assumption)) | exact fb_l1 (sb_f (by assumption))) ?_
    refine rw_getR F dc_X8_now_81 fl_RX8_101 (by first | rfl | assumption | decide | exact r73_k (by assumption) | exact fb_k (by assumption) | exact sb_k (by assumption) | exact tb_k (by assumption) | exact sb_li (by assumption) | exact sb_s (by assumption) | exact tb_n (by assumption) | exact fb_k (sb_f (by assumption))) (by first | rfl | assumption | exact lk6 (by assumption) _ | exact lk2 (by assumption) _ | exact fb_l0 (by assumption) | exact fb_l1 (by assumption) | exact sb_l0 (by assumption) | exact sb_l1 (by assumption) | exact sb_l2 (by assumption) | exact sb_l3 (by assumption) | exact tb_l0 (by assumption) | exact tb_l1 (by assumption) | exact tb_l2 (by assumption) | exact lk2 (sb_li (by assumption)) _ | exact fb_l0 (sb_f (by assumption)) | exact fb_l1 (sb_f (by assumption))) ?_
    obtain ⟨hs4, hp⟩ := hp
    refine rw_cVi F [] dc_X8_now_84 mv_X1_shipsInPort ml_RX8_158 (by decide) (rc_1 (by first | rfl | assumption | decide | exact r73_k (by assumption) | exact fb_k (by assumption) | exact sb_k (by assumption) | exact tb_k (by assumption) | exact sb_li (by assumption) | exact sb_s (by assumption) | exact tb_n (by assumption) | exact fb_k (sb_f (by assumption)))) rfl rfl (Nat.le_of_ble_eq_true rfl) (cr_X1_shipsInPort hs4) ?_
    refine rw_iret F dc_X8_now_87 rfl rfl ?_
    exact ⟨by first | (simp only [f_X8_now, g_X8_now, if_neg c1_0, if_neg c1_1, if_neg c1_2, if_pos c1_3]; done) | rfl | (simp only [f_X8_now, g_X8_now, if_neg c1_0, if_neg c1_1, if_neg c1_2, if_pos c1_3]; rfl), by first | (simp only [f_X8_now, g_X8_now, if_neg c1_0, if_neg c1_1, if_neg c1_2, if_pos c1_3]; done) | rfl | (simp only [f_X8_now, g_X8_now, if_neg c1_0, if_neg c1_1, if_neg c1_2, if_pos c1_3]; rfl)⟩
  rw [if_neg c1_3] at hp
  refine rw_tswc (4) 4 88 F dc_X8_now_1 rfl rfl rfl (by decide) (fun c1_4 => ?_) (fun c1_4 => ?_)
  · rw [if_pos c1_4] at hp
    refine rw_aload_n F dc_X8_now_88 rfl ?_
    refine rw_getR F dc_X8_now_89 fl_RX8_12 (by first | rfl | assumption | decide | exact r73_k (by assumption) | exact fb_k (by assumption) | exact sb_k (by assumption) | exact tb_k (by assumption) | exact sb_li (by assumption) | exact sb_s (by assumption) | exact tb_n (by assumption) | exact fb_k (sb_f (by assumption))) (by first | rfl | assumption | exact lk6 (by assumption) _ | exact lk2 (by assumption) _ | exact fb_l0 (by assumption) | exact fb_l1 (by assumption) | exact sb_l0 (by assumption) | exact sb_l1 (by assumption) | exact sb_l2 (by assumption) | exact sb_l3 (by assumption) | exact tb_l0 (by assumption) | exact tb_l1 (by assumption) | exact tb_l2 (by assumption) | exact lk2 (sb_li (by assumption)) _ | exact fb_l0 (sb_f (by assumption)) | exact fb_l1 (sb_f (by assumption))) ?_
    refine rw_getR F dc_X8_now_92 fl_RX8_101 (by first | rfl | assumption | decide | exact r73_k (by assumption) | exact fb_k (by assumption) | exact sb_k (by assumption) | exact tb_k (by assumption) | exact sb_li (by assumption) | exact sb_s (by assumption) | exact tb_n (by assumption) | exact fb_k (sb_f (by assumption))) (by first | rfl | assumption | exact lk6 (by assumption) _ | exact lk2 (by assumption) _ | exact fb_l0 (by assumption) | exact fb_l1 (by assumption) | exact sb_l0 (by assumption) | exact sb_l1 (by assumption) | exact sb_l2 (by assumption) | exact sb_l3 (by assumption) | exact tb_l0 (by assumption) | exact tb_l1 (by assumption) | exact tb_l2 (by assumption) | exact lk2 (sb_li (by assumption)) _ | exact fb_l0 (sb_f (by assumption)) | exact fb_l1 (sb_f (by assumption))) ?_
    obtain ⟨hs5, hp⟩ := hp
    refine rw_cVi F [] dc_X8_now_95 mv_X1_cellsTaken ml_RX8_161 (by decide) (rc_1 (by first | rfl | assumption | decide | exact r73_k (by assumption) | exact fb_k (by assumption) | exact sb_k (by assumption) | exact tb_k (by assumption) | exact sb_li (by assumption) | exact sb_s (by assumption) | exact tb_n (by assumption) | exact fb_k (sb_f (by assumption)))) rfl rfl (Nat.le_of_ble_eq_true rfl) (cr_X1_cellsTaken hs5) ?_
    refine rw_iret F dc_X8_now_98 rfl rfl ?_
    exact ⟨by first | (simp only [f_X8_now, g_X8_now, if_neg c1_0, if_neg c1_1, if_neg c1_2, if_neg c1_3, if_pos c1_4]; done) | rfl | (simp only [f_X8_now, g_X8_now, if_neg c1_0, if_neg c1_1, if_neg c1_2, if_neg c1_3, if_pos c1_4]; rfl), by first | (simp only [f_X8_now, g_X8_now, if_neg c1_0, if_neg c1_1, if_neg c1_2, if_neg c1_3, if_pos c1_4]; done) | rfl | (simp only [f_X8_now, g_X8_now, if_neg c1_0, if_neg c1_1, if_neg c1_2, if_neg c1_3, if_pos c1_4]; rfl)⟩
  rw [if_neg c1_4] at hp
  refine rw_tswc (5) 5 99 F dc_X8_now_1 rfl rfl rfl (by decide) (fun c1_5 => ?_) (fun c1_5 => ?_)
  · rw [if_pos c1_5] at hp
    refine rw_aload_n F dc_X8_now_99 rfl ?_
    refine rw_getR F dc_X8_now_100 fl_RX8_12 (by first | rfl | assumption | decide | exact r73_k (by assumption) | exact fb_k (by assumption) | exact sb_k (by assumption) | exact tb_k (by assumption) | exact sb_li (by assumption) | exact sb_s (by assumption) | exact tb_n (by assumption) | exact fb_k (sb_f (by assumption))) (by first | rfl | assumption | exact lk6 (by assumption) _ | exact lk2 (by assumption) _ | exact fb_l0 (by assumption) | exact fb_l1 (by assumption) | exact sb_l0 (by assumption) | exact sb_l1 (by assumption) | exact sb_l2 (by assumption) | exact sb_l3 (by assumption) | exact tb_l0 (by assumption) | exact tb_l1 (by assumption) | exact tb_l2 (by assumption) | exact lk2 (sb_li (by assumption)) _ | exact fb_l0 (sb_f (by assumption)) | exact fb_l1 (sb_f (by assumption))) ?_
    refine rw_getR F dc_X8_now_103 fl_RX8_101 (by first | rfl | assumption | decide | exact r73_k (by assumption) | exact fb_k (by assumption) | exact sb_k (by assumption) | exact tb_k (by assumption) | exact sb_li (by assumption) | exact sb_s (by assumption) | exact tb_n (by assumption) | exact fb_k (sb_f (by assumption))) (by first | rfl | assumption | exact lk6 (by assumption) _ | exact lk2 (by assumption) _ | exact fb_l0 (by assumption) | exact fb_l1 (by assumption) | exact sb_l0 (by assumption) | exact sb_l1 (by assumption) | exact sb_l2 (by assumption) | exact sb_l3 (by assumption) | exact tb_l0 (by assumption) | exact tb_l1 (by assumption) | exact tb_l2 (by assumption) | exact lk2 (sb_li (by assumption)) _ | exact fb_l0 (sb_f (by assumption)) | exact fb_l1 (sb_f (by assumption))) ?_
    obtain ⟨hs6, hp⟩ := hp
    refine rw_cVi F [] dc_X8_now_106 mv_X1_nearestToFirst ml_RX8_164 (by decide) (rc_1 (by first | rfl | assumption | decide | exact r73_k (by assumption) | exact fb_k (by assumption) | exact sb_k (by assumption) | exact tb_k (by assumption) | exact sb_li (by assumption) | exact sb_s (by assumption) | exact tb_n (by assumption) | exact fb_k (sb_f (by assumption)))) rfl rfl (Nat.le_of_ble_eq_true rfl) (cr_X1_nearestToFirst hs6) ?_
    refine rw_iret F dc_X8_now_109 rfl rfl ?_
    exact ⟨by first | (simp only [f_X8_now, g_X8_now, if_neg c1_0, if_neg c1_1, if_neg c1_2, if_neg c1_3, if_neg c1_4, if_pos c1_5]; done) | rfl | (simp only [f_X8_now, g_X8_now, if_neg c1_0, if_neg c1_1, if_neg c1_2, if_neg c1_3, if_neg c1_4, if_pos c1_5]; rfl), by first | (simp only [f_X8_now, g_X8_now, if_neg c1_0, if_neg c1_1, if_neg c1_2, if_neg c1_3, if_neg c1_4, if_pos c1_5]; done) | rfl | (simp only [f_X8_now, g_X8_now, if_neg c1_0, if_neg c1_1, if_neg c1_2, if_neg c1_3, if_neg c1_4, if_pos c1_5]; rfl)⟩
  rw [if_neg c1_5] at hp
  refine rw_tswc (6) 6 110 F dc_X8_now_1 rfl rfl rfl (by decide) (fun c1_6 => ?_) (fun c1_6 => ?_)
  · refine rw_aload_n F dc_X8_now_110 rfl ?_
    refine rw_getR F dc_X8_now_111 fl_RX8_12 (by first | rfl | assumption | decide | exact r73_k (by assumption) | exact fb_k (by assumption) | exact sb_k (by assumption) | exact tb_k (by assumption) | exact sb_li (by assumption) | exact sb_s (by assumption) | exact tb_n (by assumption) | exact fb_k (sb_f (by assumption))) (by first | rfl | assumption | exact lk6 (by assumption) _ | exact lk2 (by assumption) _ | exact fb_l0 (by assumption) | exact fb_l1 (by assumption) | exact sb_l0 (by assumption) | exact sb_l1 (by assumption) | exact sb_l2 (by assumption) | exact sb_l3 (by assumption) | exact tb_l0 (by assumption) | exact tb_l1 (by assumption) | exact tb_l2 (by assumption) | exact lk2 (sb_li (by assumption)) _ | exact fb_l0 (sb_f (by assumption)) | exact fb_l1 (sb_f (by assumption))) ?_
    refine rw_getR F dc_X8_now_114 fl_RX8_87 (by first | rfl | assumption | decide | exact r73_k (by assumption) | exact fb_k (by assumption) | exact sb_k (by assumption) | exact tb_k (by assumption) | exact sb_li (by assumption) | exact sb_s (by assumption) | exact tb_n (by assumption) | exact fb_k (sb_f (by assumption))) (by first | rfl | assumption | exact lk6 (by assumption) _ | exact lk2 (by assumption) _ | exact fb_l0 (by assumption) | exact fb_l1 (by assumption) | exact sb_l0 (by assumption) | exact sb_l1 (by assumption) | exact sb_l2 (by assumption) | exact sb_l3 (by assumption) | exact tb_l0 (by assumption) | exact tb_l1 (by assumption) | exact tb_l2 (by assumption) | exact lk2 (sb_li (by assumption)) _ | exact fb_l0 (sb_f (by assumption)) | exact fb_l1 (sb_f (by assumption))) ?_
    refine rw_getI F dc_X8_now_117 fl_RX8_167 (by first | rfl | assumption | decide | exact r73_k (by assumption) | exact fb_k (by assumption) | exact sb_k (by assumption) | exact tb_k (by assumption) | exact sb_li (by assumption) | exact sb_s (by assumption) | exact tb_n (by assumption) | exact fb_k (sb_f (by assumption))) (by first | rfl | assumption | exact lk6 (by assumption) _ | exact lk2 (by assumption) _ | exact fb_l0 (by assumption) | exact fb_l1 (by assumption) | exact sb_l0 (by assumption) | exact sb_l1 (by assumption) | exact sb_l2 (by assumption) | exact sb_l3 (by assumption) | exact tb_l0 (by assumption) | exact tb_l1 (by assumption) | exact tb_l2 (by assumption) | exact lk2 (sb_li (by assumption)) _ | exact fb_l0 (sb_f (by assumption)) | exact fb_l1 (sb_f (by assumption))) ?_
    refine rw_cSi F [_] dc_X8_now_120 ms_J6_bitCount_0f7a4 ml_RX8_170 (by decide)  rfl rfl (Nat.le_of_ble_eq_true rfl) ct_J6_bitCount_0f7a4 ?_
    refine rw_iret F dc_X8_now_123 rfl rfl ?_
    exact ⟨by first | (simp only [f_X8_now, g_X8_now, if_neg c1_0, if_neg c1_1, if_neg c1_2, if_neg c1_3, if_neg c1_4, if_neg c1_5, if_pos c1_6]; done) | rfl | (simp only [f_X8_now, g_X8_now, if_neg c1_0, if_neg c1_1, if_neg c1_2, if_neg c1_3, if_neg c1_4, if_neg c1_5, if_pos c1_6]; rfl), by first | (simp only [f_X8_now, g_X8_now, if_neg c1_0, if_neg c1_1, if_neg c1_2, if_neg c1_3, if_neg c1_4, if_neg c1_5, if_pos c1_6]; done) | rfl | (simp only [f_X8_now, g_X8_now, if_neg c1_0, if_neg c1_1, if_neg c1_2, if_neg c1_3, if_neg c1_4, if_neg c1_5, if_pos c1_6]; rfl)⟩
  refine rw_tsw F dc_X8_now_1 124 (Or.inl ⟨by have h0 := lv_neT c1_0 (a := 0) (by decide); have h1 := lv_neT c1_1 (a := 1) (by decide); have h2 := lv_neT c1_2 (a := 2) (by decide); have h3 := lv_neT c1_3 (a := 3) (by decide); have h4 := lv_neT c1_4 (a := 4) (by decide); have h5 := lv_neT c1_5 (a := 5) (by decide); have h6 := lv_neT c1_6 (a := 6) (by decide); omega, rfl⟩) ?_
  refine rw_aload_n F dc_X8_now_124 rfl ?_
  refine rw_ldc F dc_X8_now_125 kc_RX8_82 ?_
  refine rw_cVi F [_] dc_X8_now_127 mv_X8_found ml_RX8_83 (by decide) (rc_8 (by first | rfl | assumption | decide | exact r73_k (by assumption) | exact fb_k (by assumption) | exact sb_k (by assumption) | exact tb_k (by assumption) | exact sb_li (by assumption) | exact sb_s (by assumption) | exact tb_n (by assumption) | exact fb_k (sb_f (by assumption)))) rfl rfl (Nat.le_of_ble_eq_true rfl) cn_X8_found ?_
  refine rw_iret F dc_X8_now_130 rfl rfl ?_
  exact ⟨by first | (simp only [f_X8_now, g_X8_now, if_neg c1_0, if_neg c1_1, if_neg c1_2, if_neg c1_3, if_neg c1_4, if_neg c1_5, if_neg c1_6]; done) | rfl | (simp only [f_X8_now, g_X8_now, if_neg c1_0, if_neg c1_1, if_neg c1_2, if_neg c1_3, if_neg c1_4, if_neg c1_5, if_neg c1_6]; rfl), by first | (simp only [f_X8_now, g_X8_now, if_neg c1_0, if_neg c1_1, if_neg c1_2, if_neg c1_3, if_neg c1_4, if_neg c1_5, if_neg c1_6]; done) | rfl | (simp only [f_X8_now, g_X8_now, if_neg c1_0, if_neg c1_1, if_neg c1_2, if_neg c1_3, if_neg c1_4, if_neg c1_5, if_neg c1_6]; rfl)⟩
def f_X8_odds (N : Nat)  (x1 : Int32) (x2 : Int32) (τ : tw_T) : Int64 := if (f_X8_within x1 0 17 τ) = (0 : Int32) then (((-1000001)).toInt64) else (if (f_X8_within x2 0 1 τ) = (0 : Int32) then (((-1000001)).toInt64) else (if x2 = (0 : Int32) then (f_X8_power N (f_X8_lowered N (f_J6_bitCount_0f7a4 (τ 2 0) τ) 12 τ) x1 τ) else (f_X8_power N (f_X8_lowered N 12 (f_J6_bitCount_0f7a4 (τ 2 0) τ) τ) x1 τ)))
def g_X8_odds (N : Nat)  (x1 : Int32) (x2 : Int32) (τ : tw_T) : tw_T := if (f_X8_within x1 0 17 τ) = (0 : Int32) then (g_X8_found ((-1000001)) τ) else (if (f_X8_within x2 0 1 τ) = (0 : Int32) then (g_X8_found ((-1000001)) τ) else τ)
def p_X8_odds (N : Nat)  (x1 : Int32) (x2 : Int32) (τ : tw_T) : Prop := if (f_X8_within x1 0 17 τ) = (0 : Int32) then True else (if (f_X8_within x2 0 1 τ) = (0 : Int32) then True else (if x2 = (0 : Int32) then (p_X8_lowered N (f_J6_bitCount_0f7a4 (τ 2 0) τ) 12 τ ∧ (p_X8_power N (f_X8_lowered N (f_J6_bitCount_0f7a4 (τ 2 0) τ) 12 τ) x1 τ ∧ True)) else (p_X8_lowered N 12 (f_J6_bitCount_0f7a4 (τ 2 0) τ) τ ∧ (p_X8_power N (f_X8_lowered N 12 (f_J6_bitCount_0f7a4 (τ 2 0) τ) τ) x1 τ ∧ True))))
theorem ct_X8_odds {E : tw_E}  {N : Nat}  {x1 : Int32} {x2 : Int32} {τ : tw_T} (hp : p_X8_odds N x1 x2 τ)  : tw_Cl E 3 mX8_odds [.ref 0, .int x1, .int x2] τ (f_X8_odds N x1 x2 τ) (g_X8_odds N x1 x2 τ) := by
  unfold p_X8_odds at hp
  refine ct_of (by decide) (by simp [Value.category]) (Nat.le_of_ble_eq_true rfl) (fun K hE F => ?_)
  subst hE
  refine rw_iload_n F dc_X8_odds_0 rfl ?_
  refine rw_iconst (v := 0) F dc_X8_odds_1 rfl ?_
  refine rw_bipush (v := 17) F dc_X8_odds_2 rfl ?_
  refine rw_cSi F [_, _, _] dc_X8_odds_4 ms_X8_within ml_RX8_97 (by decide)  rfl rfl (Nat.le_of_ble_eq_true rfl) ct_X8_within ?_
  refine rw_if_eq (tgt := 19) F dc_X8_odds_7 rfl (fun c1 => ?_) (fun c1 => ?_)
  · rw [if_pos c1] at hp
    refine rw_aload_n F dc_X8_odds_19 rfl ?_
    refine rw_ldc F dc_X8_odds_20 kc_RX8_82 ?_
    refine rw_cVi F [_] dc_X8_odds_22 mv_X8_found ml_RX8_83 (by decide) (rc_8 (by first | rfl | assumption | decide | exact r73_k (by assumption) | exact fb_k (by assumption) | exact sb_k (by assumption) | exact tb_k (by assumption) | exact sb_li (by assumption) | exact sb_s (by assumption) | exact tb_n (by assumption) | exact fb_k (sb_f (by assumption)))) rfl rfl (Nat.le_of_ble_eq_true rfl) cn_X8_found ?_
    refine rw_i2l F dc_X8_odds_25 ?_
    refine rw_lret F dc_X8_odds_26 rfl ?_
    exact ⟨by first | (simp only [f_X8_odds, g_X8_odds, if_pos c1]; done) | rfl | (simp only [f_X8_odds, g_X8_odds, if_pos c1]; rfl), by first | (simp only [f_X8_odds, g_X8_odds, if_pos c1]; done) | rfl | (simp only [f_X8_odds, g_X8_odds, if_pos c1]; rfl)⟩
  · rw [if_neg c1] at hp
    refine rw_iload_n F dc_X8_odds_10 rfl ?_
    refine rw_iconst (v := 0) F dc_X8_odds_11 rfl ?_
    refine rw_iconst (v := 1) F dc_X8_odds_12 rfl ?_
    refine rw_cSi F [_, _, _] dc_X8_odds_13 ms_X8_within ml_RX8_97 (by decide)  rfl rfl (Nat.le_of_ble_eq_true rfl) ct_X8_within ?_
    refine rw_if_ne (tgt := 27) F dc_X8_odds_16 rfl (fun c2 => ?_) (fun c2 => ?_)
    · rw [if_neg c2] at hp
      refine rw_aload_n F dc_X8_odds_27 rfl ?_
      refine rw_getR F dc_X8_odds_28 fl_RX8_12 (by first | rfl | assumption | decide | exact r73_k (by assumption) | exact fb_k (by assumption) | exact sb_k (by assumption) | exact tb_k (by assumption) | exact sb_li (by assumption) | exact sb_s (by assumption) | exact tb_n (by assumption) | exact fb_k (sb_f (by assumption))) (by first | rfl | assumption | exact lk6 (by assumption) _ | exact lk2 (by assumption) _ | exact fb_l0 (by assumption) | exact fb_l1 (by assumption) | exact sb_l0 (by assumption) | exact sb_l1 (by assumption) | exact sb_l2 (by assumption) | exact sb_l3 (by assumption) | exact tb_l0 (by assumption) | exact tb_l1 (by assumption) | exact tb_l2 (by assumption) | exact lk2 (sb_li (by assumption)) _ | exact fb_l0 (sb_f (by assumption)) | exact fb_l1 (sb_f (by assumption))) ?_
      refine rw_getR F dc_X8_odds_31 fl_RX8_87 (by first | rfl | assumption | decide | exact r73_k (by assumption) | exact fb_k (by assumption) | exact sb_k (by assumption) | exact tb_k (by assumption) | exact sb_li (by assumption) | exact sb_s (by assumption) | exact tb_n (by assumption) | exact fb_k (sb_f (by assumption))) (by first | rfl | assumption | exact lk6 (by assumption) _ | exact lk2 (by assumption) _ | exact fb_l0 (by assumption) | exact fb_l1 (by assumption) | exact sb_l0 (by assumption) | exact sb_l1 (by assumption) | exact sb_l2 (by assumption) | exact sb_l3 (by assumption) | exact tb_l0 (by assumption) | exact tb_l1 (by assumption) | exact tb_l2 (by assumption) | exact lk2 (sb_li (by assumption)) _ | exact fb_l0 (sb_f (by assumption)) | exact fb_l1 (sb_f (by assumption))) ?_
      refine rw_getI F dc_X8_odds_34 fl_RX8_200 (by first | rfl | assumption | decide | exact r73_k (by assumption) | exact fb_k (by assumption) | exact sb_k (by assumption) | exact tb_k (by assumption) | exact sb_li (by assumption) | exact sb_s (by assumption) | exact tb_n (by assumption) | exact fb_k (sb_f (by assumption))) (by first | rfl | assumption | exact lk6 (by assumption) _ | exact lk2 (by assumption) _ | exact fb_l0 (by assumption) | exact fb_l1 (by assumption) | exact sb_l0 (by assumption) | exact sb_l1 (by assumption) | exact sb_l2 (by assumption) | exact sb_l3 (by assumption) | exact tb_l0 (by assumption) | exact tb_l1 (by assumption) | exact tb_l2 (by assumption) | exact lk2 (sb_li (by assumption)) _ | exact fb_l0 (sb_f (by assumption)) | exact fb_l1 (sb_f (by assumption))) ?_
      refine rw_cSi F [_] dc_X8_odds_37 ms_J6_bitCount_0f7a4 ml_RX8_170 (by decide)  rfl rfl (Nat.le_of_ble_eq_true rfl) ct_J6_bitCount_0f7a4 ?_
      refine rw_istore_n F dc_X8_odds_40 (by decide) rfl ?_
      refine rw_iload_n F dc_X8_odds_41 rfl ?_
      refine rw_if_ne (tgt := 54) F dc_X8_odds_42 rfl (fun c3 => ?_) (fun c3 => ?_)
      · rw [if_neg c3] at hp
        refine rw_bipush (v := 12) F dc_X8_odds_54 rfl ?_
        refine rw_iload_n F dc_X8_odds_56 rfl ?_
        obtain ⟨hs4, hp⟩ := hp
        refine rw_cSi F [_, _] dc_X8_odds_57 ms_X8_lowered ml_RX8_258 (by decide)  rfl rfl (Nat.le_of_ble_eq_true rfl) (cr_X8_lowered hs4) ?_
        refine rw_iload_n F dc_X8_odds_60 rfl ?_
        obtain ⟨hs5, hp⟩ := hp
        refine rw_cSl F [_, _] dc_X8_odds_61 ms_X8_power ml_RX8_261 (by decide)  rfl rfl (Nat.le_of_ble_eq_true rfl) (cr_X8_power hs5) ?_
        refine rw_lret F dc_X8_odds_64 rfl ?_
        exact ⟨by first | (simp only [f_X8_odds, g_X8_odds, if_neg c1, if_neg c2, if_neg c3]; done) | rfl | (simp only [f_X8_odds, g_X8_odds, if_neg c1, if_neg c2, if_neg c3]; rfl), by first | (simp only [f_X8_odds, g_X8_odds, if_neg c1, if_neg c2, if_neg c3]; done) | rfl | (simp only [f_X8_odds, g_X8_odds, if_neg c1, if_neg c2, if_neg c3]; rfl)⟩
      · rw [if_pos c3] at hp
        refine rw_iload_n F dc_X8_odds_45 rfl ?_
        refine rw_bipush (v := 12) F dc_X8_odds_46 rfl ?_
        obtain ⟨hs6, hp⟩ := hp
        refine rw_cSi F [_, _] dc_X8_odds_48 ms_X8_lowered ml_RX8_258 (by decide)  rfl rfl (Nat.le_of_ble_eq_true rfl) (cr_X8_lowered hs6) ?_
        refine rw_goto (tgt := 60) F dc_X8_odds_51 rfl ?_
        refine rw_iload_n F dc_X8_odds_60 rfl ?_
        obtain ⟨hs7, hp⟩ := hp
        refine rw_cSl F [_, _] dc_X8_odds_61 ms_X8_power ml_RX8_261 (by decide)  rfl rfl (Nat.le_of_ble_eq_true rfl) (cr_X8_power hs7) ?_
        refine rw_lret F dc_X8_odds_64 rfl ?_
        exact ⟨by first | (simp only [f_X8_odds, g_X8_odds, if_neg c1, if_neg c2, if_pos c3]; done) | rfl | (simp only [f_X8_odds, g_X8_odds, if_neg c1, if_neg c2, if_pos c3]; rfl), by first | (simp only [f_X8_odds, g_X8_odds, if_neg c1, if_neg c2, if_pos c3]; done) | rfl | (simp only [f_X8_odds, g_X8_odds, if_neg c1, if_neg c2, if_pos c3]; rfl)⟩
    · rw [if_pos c2] at hp
      refine rw_aload_n F dc_X8_odds_19 rfl ?_
      refine rw_ldc F dc_X8_odds_20 kc_RX8_82 ?_
      refine rw_cVi F [_] dc_X8_odds_22 mv_X8_found ml_RX8_83 (by decide) (rc_8 (by first | rfl | assumption | decide | exact r73_k (by assumption) | exact fb_k (by assumption) | exact sb_k (by assumption) | exact tb_k (by assumption) | exact sb_li (by assumption) | exact sb_s (by assumption) | exact tb_n (by assumption) | exact fb_k (sb_f (by assumption)))) rfl rfl (Nat.le_of_ble_eq_true rfl) cn_X8_found ?_
      refine rw_i2l F dc_X8_odds_25 ?_
      refine rw_lret F dc_X8_odds_26 rfl ?_
      exact ⟨by first | (simp only [f_X8_odds, g_X8_odds, if_neg c1, if_pos c2]; done) | rfl | (simp only [f_X8_odds, g_X8_odds, if_neg c1, if_pos c2]; rfl), by first | (simp only [f_X8_odds, g_X8_odds, if_neg c1, if_pos c2]; done) | rfl | (simp only [f_X8_odds, g_X8_odds, if_neg c1, if_pos c2]; rfl)⟩
def lf_X8_feed_41 (N : Nat)  : Nat → Int32 → Int32 → Int32 → tw_T → Int32
  | 0, _, _, _, _ => 0
  | n + 1, x1, x2, x3, τ => if x3 < (0 : Int32) then (τ 27 1) else (lf_X8_feed_41 N n x1 x2 (x3 + (-1)) (g_X7_add (((x1.toUInt32 >>> ((8 * x3).toUInt32 &&& Int32.toUInt32 31)).toInt32) &&& 255) τ))
def lg_X8_feed_41 (N : Nat)  : Nat → Int32 → Int32 → Int32 → tw_T → tw_T
  | 0, _, _, _, τ => τ
  | n + 1, x1, x2, x3, τ => if x3 < (0 : Int32) then τ else (lg_X8_feed_41 N n x1 x2 (x3 + (-1)) (g_X7_add (((x1.toUInt32 >>> ((8 * x3).toUInt32 &&& Int32.toUInt32 31)).toInt32) &&& 255) τ))
def lo_X8_feed_41 (N : Nat)  : Nat → Int32 → Int32 → Int32 → tw_T → Prop
  | 0, _, _, _, _ => False
  | n + 1, x1, x2, x3, τ => if x3 < (0 : Int32) then True else (p_X7_add (((x1.toUInt32 >>> ((8 * x3).toUInt32 &&& Int32.toUInt32 31)).toInt32) &&& 255) τ ∧ (lo_X8_feed_41 N n x1 x2 (x3 + (-1)) (g_X7_add (((x1.toUInt32 >>> ((8 * x3).toUInt32 &&& Int32.toUInt32 31)).toInt32) &&& 255) τ)))
def f_X8_feed (N : Nat)  (x1 : Int32) (x2 : Int32) (τ : tw_T) : Int32 := if (f_X8_within x2 1 4 τ) = (0 : Int32) then ((-1000001)) else (if ((τ 27 1) + x2) ≤ (120 : Int32) then (lf_X8_feed_41 N N x1 x2 (x2 - 1) τ) else ((-1000002)))
def g_X8_feed (N : Nat)  (x1 : Int32) (x2 : Int32) (τ : tw_T) : tw_T := if (f_X8_within x2 1 4 τ) = (0 : Int32) then (g_X8_found ((-1000001)) τ) else (if ((τ 27 1) + x2) ≤ (120 : Int32) then (lg_X8_feed_41 N N x1 x2 (x2 - 1) τ) else (g_X8_found ((-1000002)) τ))
def p_X8_feed (N : Nat)  (x1 : Int32) (x2 : Int32) (τ : tw_T) : Prop := if (f_X8_within x2 1 4 τ) = (0 : Int32) then True else (if ((τ 27 1) + x2) ≤ (120 : Int32) then (lo_X8_feed_41 N N x1 x2 (x2 - 1) τ) else True)
theorem lp_X8_feed_41 {K : tw_K} {Q : Option Value → tw_T → Prop} (F : tw_F K mX8_feed 3 Q)   (N : Nat)  : ∀ (n : Nat) (x1 : Int32) (x2 : Int32) (x3 : Int32) (τ : tw_T), lo_X8_feed_41 N n x1 x2 x3 τ → Q (some (.int (lf_X8_feed_41 N n x1 x2 x3 τ))) (lg_X8_feed_41 N n x1 x2 x3 τ) → tw_R K 41 [.ref 0, .int x1, .int x2, .int x3] [] τ := by
  intro n
  induction n with
  | zero => intro x1 x2 x3 τ hp _; exact False.elim hp
  | succ n ih =>
    intro x1 x2 x3 τ hp hq
    simp only [lo_X8_feed_41] at hp
    simp only [lf_X8_feed_41, lg_X8_feed_41] at hq
    refine rw_iload_n F dc_X8_feed_41 rfl ?_
    refine rw_if_lt (tgt := 68) F dc_X8_feed_42 rfl (fun c1 => ?_) (fun c1 => ?_)
    · rw [if_pos c1] at hp
      refine rw_aload_n F dc_X8_feed_68 rfl ?_
      refine rw_getR F dc_X8_feed_69 fl_RX8_26 (by first | rfl | assumption | decide | exact r73_k (by assumption) | exact fb_k (by assumption) | exact sb_k (by assumption) | exact tb_k (by assumption) | exact sb_li (by assumption) | exact sb_s (by assumption) | exact tb_n (by assumption) | exact fb_k (sb_f (by assumption))) (by first | rfl | assumption | exact lk6 (by assumption) _ | exact lk2 (by assumption) _ | exact fb_l0 (by assumption) | exact fb_l1 (by assumption) | exact sb_l0 (by assumption) | exact sb_l1 (by assumption) | exact sb_l2 (by assumption) | exact sb_l3 (by assumption) | exact tb_l0 (by assumption) | exact tb_l1 (by assumption) | exact tb_l2 (by assumption) | exact lk2 (sb_li (by assumption)) _ | exact fb_l0 (sb_f (by assumption)) | exact fb_l1 (sb_f (by assumption))) ?_
      refine rw_getI F dc_X8_feed_72 fl_RX8_268 (by first | rfl | assumption | decide | exact r73_k (by assumption) | exact fb_k (by assumption) | exact sb_k (by assumption) | exact tb_k (by assumption) | exact sb_li (by assumption) | exact sb_s (by assumption) | exact tb_n (by assumption) | exact fb_k (sb_f (by assumption))) (by first | rfl | assumption | exact lk6 (by assumption) _ | exact lk2 (by assumption) _ | exact fb_l0 (by assumption) | exact fb_l1 (by assumption) | exact sb_l0 (by assumption) | exact sb_l1 (by assumption) | exact sb_l2 (by assumption) | exact sb_l3 (by assumption) | exact tb_l0 (by assumption) | exact tb_l1 (by assumption) | exact tb_l2 (by assumption) | exact lk2 (sb_li (by assumption)) _ | exact fb_l0 (sb_f (by assumption)) | exact fb_l1 (sb_f (by assumption))) ?_
      refine rw_iret F dc_X8_feed_75 rfl rfl ?_
      exact (by simpa only [if_pos c1] using hq)
    · rw [if_neg c1] at hp
      refine rw_aload_n F dc_X8_feed_45 rfl ?_
      refine rw_getR F dc_X8_feed_46 fl_RX8_26 (by first | rfl | assumption | decide | exact r73_k (by assumption) | exact fb_k (by assumption) | exact sb_k (by assumption) | exact tb_k (by assumption) | exact sb_li (by assumption) | exact sb_s (by assumption) | exact tb_n (by assumption) | exact fb_k (sb_f (by assumption))) (by first | rfl | assumption | exact lk6 (by assumption) _ | exact lk2 (by assumption) _ | exact fb_l0 (by assumption) | exact fb_l1 (by assumption) | exact sb_l0 (by assumption) | exact sb_l1 (by assumption) | exact sb_l2 (by assumption) | exact sb_l3 (by assumption) | exact tb_l0 (by assumption) | exact tb_l1 (by assumption) | exact tb_l2 (by assumption) | exact lk2 (sb_li (by assumption)) _ | exact fb_l0 (sb_f (by assumption)) | exact fb_l1 (sb_f (by assumption))) ?_
      refine rw_iload_n F dc_X8_feed_49 rfl ?_
      refine rw_bipush (v := 8) F dc_X8_feed_50 rfl ?_
      refine rw_iload_n F dc_X8_feed_52 rfl ?_
      refine rw_imul F dc_X8_feed_53 ?_
      refine rw_iushr F dc_X8_feed_54 ?_
      refine rw_sipush (v := 255) F dc_X8_feed_55 rfl ?_
      refine rw_iand F dc_X8_feed_58 ?_
      obtain ⟨hs2, hp⟩ := hp
      refine rw_cVv F [_] dc_X8_feed_59 mv_X7_add ml_RX8_269 (by decide) (rc_7 (by first | rfl | assumption | decide | exact r73_k (by assumption) | exact fb_k (by assumption) | exact sb_k (by assumption) | exact tb_k (by assumption) | exact sb_li (by assumption) | exact sb_s (by assumption) | exact tb_n (by assumption) | exact fb_k (sb_f (by assumption)))) rfl rfl (Nat.le_of_ble_eq_true rfl) (ct_X7_add hs2) ?_
      refine rw_inc (n1 := (-1)) F dc_X8_feed_62 rfl rfl (by decide) rfl ?_
      refine rw_goto (tgt := 41) F dc_X8_feed_65 rfl ?_
      exact ih _ _ _ _ hp (by simpa only [if_neg c1] using hq)
theorem cr_X8_feed {E : tw_E}  {N : Nat}  {x1 : Int32} {x2 : Int32} {τ : tw_T} (hp : p_X8_feed N x1 x2 τ)  : tw_Ci E 3 mX8_feed [.ref 0, .int x1, .int x2] τ (f_X8_feed N x1 x2 τ) (g_X8_feed N x1 x2 τ) := by
  unfold p_X8_feed at hp
  refine ct_of (by decide) (by simp [Value.category]) (Nat.le_of_ble_eq_true rfl) (fun K hE F => ?_)
  subst hE
  refine rw_iload_n F dc_X8_feed_0 rfl ?_
  refine rw_iconst (v := 1) F dc_X8_feed_1 rfl ?_
  refine rw_iconst (v := 4) F dc_X8_feed_2 rfl ?_
  refine rw_cSi F [_, _, _] dc_X8_feed_3 ms_X8_within ml_RX8_97 (by decide)  rfl rfl (Nat.le_of_ble_eq_true rfl) ct_X8_within ?_
  refine rw_if_ne (tgt := 16) F dc_X8_feed_6 rfl (fun c1 => ?_) (fun c1 => ?_)
  · rw [if_neg c1] at hp
    refine rw_aload_n F dc_X8_feed_16 rfl ?_
    refine rw_getR F dc_X8_feed_17 fl_RX8_26 (by first | rfl | assumption | decide | exact r73_k (by assumption) | exact fb_k (by assumption) | exact sb_k (by assumption) | exact tb_k (by assumption) | exact sb_li (by assumption) | exact sb_s (by assumption) | exact tb_n (by assumption) | exact fb_k (sb_f (by assumption))) (by first | rfl | assumption | exact lk6 (by assumption) _ | exact lk2 (by assumption) _ | exact fb_l0 (by assumption) | exact fb_l1 (by assumption) | exact sb_l0 (by assumption) | exact sb_l1 (by assumption) | exact sb_l2 (by assumption) | exact sb_l3 (by assumption) | exact tb_l0 (by assumption) | exact tb_l1 (by assumption) | exact tb_l2 (by assumption) | exact lk2 (sb_li (by assumption)) _ | exact fb_l0 (sb_f (by assumption)) | exact fb_l1 (sb_f (by assumption))) ?_
    refine rw_getI F dc_X8_feed_20 fl_RX8_268 (by first | rfl | assumption | decide | exact r73_k (by assumption) | exact fb_k (by assumption) | exact sb_k (by assumption) | exact tb_k (by assumption) | exact sb_li (by assumption) | exact sb_s (by assumption) | exact tb_n (by assumption) | exact fb_k (sb_f (by assumption))) (by first | rfl | assumption | exact lk6 (by assumption) _ | exact lk2 (by assumption) _ | exact fb_l0 (by assumption) | exact fb_l1 (by assumption) | exact sb_l0 (by assumption) | exact sb_l1 (by assumption) | exact sb_l2 (by assumption) | exact sb_l3 (by assumption) | exact tb_l0 (by assumption) | exact tb_l1 (by assumption) | exact tb_l2 (by assumption) | exact lk2 (sb_li (by assumption)) _ | exact fb_l0 (sb_f (by assumption)) | exact fb_l1 (sb_f (by assumption))) ?_
    refine rw_iload_n F dc_X8_feed_23 rfl ?_
    refine rw_iadd F dc_X8_feed_24 ?_
    refine rw_bipush (v := 120) F dc_X8_feed_25 rfl ?_
    refine rw_icmp_le (tgt := 37) F dc_X8_feed_27 rfl (fun c2 => ?_) (fun c2 => ?_)
    · rw [if_pos c2] at hp
      refine rw_iload_n F dc_X8_feed_37 rfl ?_
      refine rw_iconst (v := 1) F dc_X8_feed_38 rfl ?_
      refine rw_isub F dc_X8_feed_39 ?_
      refine rw_istore_n F dc_X8_feed_40 (by decide) rfl ?_
      exact lp_X8_feed_41 F  N N _ _ _ _ hp ⟨by first | (simp only [f_X8_feed, g_X8_feed, if_neg c1, if_pos c2]; done) | rfl | (simp only [f_X8_feed, g_X8_feed, if_neg c1, if_pos c2]; rfl), by first | (simp only [f_X8_feed, g_X8_feed, if_neg c1, if_pos c2]; done) | rfl | (simp only [f_X8_feed, g_X8_feed, if_neg c1, if_pos c2]; rfl)⟩
    · rw [if_neg c2] at hp
      refine rw_aload_n F dc_X8_feed_30 rfl ?_
      refine rw_ldc F dc_X8_feed_31 kc_RX8_111 ?_
      refine rw_cVi F [_] dc_X8_feed_33 mv_X8_found ml_RX8_83 (by decide) (rc_8 (by first | rfl | assumption | decide | exact r73_k (by assumption) | exact fb_k (by assumption) | exact sb_k (by assumption) | exact tb_k (by assumption) | exact sb_li (by assumption) | exact sb_s (by assumption) | exact tb_n (by assumption) | exact fb_k (sb_f (by assumption)))) rfl rfl (Nat.le_of_ble_eq_true rfl) cn_X8_found ?_
      refine rw_iret F dc_X8_feed_36 rfl rfl ?_
      exact ⟨by first | (simp only [f_X8_feed, g_X8_feed, if_neg c1, if_neg c2]; done) | rfl | (simp only [f_X8_feed, g_X8_feed, if_neg c1, if_neg c2]; rfl), by first | (simp only [f_X8_feed, g_X8_feed, if_neg c1, if_neg c2]; done) | rfl | (simp only [f_X8_feed, g_X8_feed, if_neg c1, if_neg c2]; rfl)⟩
  · rw [if_pos c1] at hp
    refine rw_aload_n F dc_X8_feed_9 rfl ?_
    refine rw_ldc F dc_X8_feed_10 kc_RX8_82 ?_
    refine rw_cVi F [_] dc_X8_feed_12 mv_X8_found ml_RX8_83 (by decide) (rc_8 (by first | rfl | assumption | decide | exact r73_k (by assumption) | exact fb_k (by assumption) | exact sb_k (by assumption) | exact tb_k (by assumption) | exact sb_li (by assumption) | exact sb_s (by assumption) | exact tb_n (by assumption) | exact fb_k (sb_f (by assumption)))) rfl rfl (Nat.le_of_ble_eq_true rfl) cn_X8_found ?_
    refine rw_iret F dc_X8_feed_15 rfl rfl ?_
    exact ⟨by first | (simp only [f_X8_feed, g_X8_feed, if_pos c1]; done) | rfl | (simp only [f_X8_feed, g_X8_feed, if_pos c1]; rfl), by first | (simp only [f_X8_feed, g_X8_feed, if_pos c1]; done) | rfl | (simp only [f_X8_feed, g_X8_feed, if_pos c1]; rfl)⟩
def f_X8_hold  (x1 : Int32) (x2 : Int32) (τ : tw_T) : Int32 := if (f_X8_within x1 0 9 τ) = (0 : Int32) then ((-1000001)) else (if x2 = ((-1)) then 1 else (if (f_X8_isShip x2 τ) = (0 : Int32) then ((-1000001)) else 1))
def g_X8_hold  (x1 : Int32) (x2 : Int32) (τ : tw_T) : tw_T := if (f_X8_within x1 0 9 τ) = (0 : Int32) then (g_X8_found ((-1000001)) τ) else (if x2 = ((-1)) then (tw_sr τ 13 (upd (τ 13) x1.toNatClampNeg x2)) else (if (f_X8_isShip x2 τ) = (0 : Int32) then (g_X8_found ((-1000001)) τ) else (tw_sr τ 13 (upd (τ 13) x1.toNatClampNeg x2))))
def p_X8_hold  (x1 : Int32) (x2 : Int32) (τ : tw_T) : Prop := if (f_X8_within x1 0 9 τ) = (0 : Int32) then True else (if x2 = ((-1)) then (vp_in x1 10 ∧ True) else (if (f_X8_isShip x2 τ) = (0 : Int32) then True else (vp_in x1 10 ∧ True)))
theorem ct_X8_hold {E : tw_E}   {x1 : Int32} {x2 : Int32} {τ : tw_T} (hp : p_X8_hold x1 x2 τ)  : tw_Ci E 3 mX8_hold [.ref 0, .int x1, .int x2] τ (f_X8_hold x1 x2 τ) (g_X8_hold x1 x2 τ) := by
  unfold p_X8_hold at hp
  refine ct_of (by decide) (by simp [Value.category]) (Nat.le_of_ble_eq_true rfl) (fun K hE F => ?_)
  subst hE
  refine rw_iload_n F dc_X8_hold_0 rfl ?_
  refine rw_iconst (v := 0) F dc_X8_hold_1 rfl ?_
  refine rw_bipush (v := 9) F dc_X8_hold_2 rfl ?_
  refine rw_cSi F [_, _, _] dc_X8_hold_4 ms_X8_within ml_RX8_97 (by decide)  rfl rfl (Nat.le_of_ble_eq_true rfl) ct_X8_within ?_
  refine rw_if_eq (tgt := 23) F dc_X8_hold_7 rfl (fun c1 => ?_) (fun c1 => ?_)
  · rw [if_pos c1] at hp
    refine rw_aload_n F dc_X8_hold_23 rfl ?_
    refine rw_ldc F dc_X8_hold_24 kc_RX8_82 ?_
    refine rw_cVi F [_] dc_X8_hold_26 mv_X8_found ml_RX8_83 (by decide) (rc_8 (by first | rfl | assumption | decide | exact r73_k (by assumption) | exact fb_k (by assumption) | exact sb_k (by assumption) | exact tb_k (by assumption) | exact sb_li (by assumption) | exact sb_s (by assumption) | exact tb_n (by assumption) | exact fb_k (sb_f (by assumption)))) rfl rfl (Nat.le_of_ble_eq_true rfl) cn_X8_found ?_
    refine rw_iret F dc_X8_hold_29 rfl rfl ?_
    exact ⟨by first | (simp only [f_X8_hold, g_X8_hold, if_pos c1]; done) | rfl | (simp only [f_X8_hold, g_X8_hold, if_pos c1]; rfl), by first | (simp only [f_X8_hold, g_X8_hold, if_pos c1]; done) | rfl | (simp only [f_X8_hold, g_X8_hold, if_pos c1]; rfl)⟩
  · rw [if_neg c1] at hp
    refine rw_iload_n F dc_X8_hold_10 rfl ?_
    refine rw_iconst (v := (-1)) F dc_X8_hold_11 rfl ?_
    refine rw_icmp_eq (tgt := 30) F dc_X8_hold_12 rfl (fun c2 => ?_) (fun c2 => ?_)
    · rw [if_pos c2] at hp
      refine rw_aload_n F dc_X8_hold_30 rfl ?_
      refine rw_getR F dc_X8_hold_31 fl_RX8_12 (by first | rfl | assumption | decide | exact r73_k (by assumption) | exact fb_k (by assumption) | exact sb_k (by assumption) | exact tb_k (by assumption) | exact sb_li (by assumption) | exact sb_s (by assumption) | exact tb_n (by assumption) | exact fb_k (sb_f (by assumption))) (by first | rfl | assumption | exact lk6 (by assumption) _ | exact lk2 (by assumption) _ | exact fb_l0 (by assumption) | exact fb_l1 (by assumption) | exact sb_l0 (by assumption) | exact sb_l1 (by assumption) | exact sb_l2 (by assumption) | exact sb_l3 (by assumption) | exact tb_l0 (by assumption) | exact tb_l1 (by assumption) | exact tb_l2 (by assumption) | exact lk2 (sb_li (by assumption)) _ | exact fb_l0 (sb_f (by assumption)) | exact fb_l1 (sb_f (by assumption))) ?_
      refine rw_getR F dc_X8_hold_34 fl_RX8_280 (by first | rfl | assumption | decide | exact r73_k (by assumption) | exact fb_k (by assumption) | exact sb_k (by assumption) | exact tb_k (by assumption) | exact sb_li (by assumption) | exact sb_s (by assumption) | exact tb_n (by assumption) | exact fb_k (sb_f (by assumption))) (by first | rfl | assumption | exact lk6 (by assumption) _ | exact lk2 (by assumption) _ | exact fb_l0 (by assumption) | exact fb_l1 (by assumption) | exact sb_l0 (by assumption) | exact sb_l1 (by assumption) | exact sb_l2 (by assumption) | exact sb_l3 (by assumption) | exact tb_l0 (by assumption) | exact tb_l1 (by assumption) | exact tb_l2 (by assumption) | exact lk2 (sb_li (by assumption)) _ | exact fb_l0 (sb_f (by assumption)) | exact fb_l1 (sb_f (by assumption))) ?_
      refine rw_iload_n F dc_X8_hold_37 rfl ?_
      refine rw_iload_n F dc_X8_hold_38 rfl ?_
      obtain ⟨hs3, hp⟩ := hp
      refine rw_isC F dc_X8_hold_39 (by first | rfl | assumption | decide | exact r73_k (by assumption) | exact fb_k (by assumption) | exact sb_k (by assumption) | exact tb_k (by assumption) | exact sb_li (by assumption) | exact sb_s (by assumption) | exact tb_n (by assumption) | exact fb_k (sb_f (by assumption))) (by first | rfl | exact r73_n (by assumption) | exact sb_sn (by assumption) | exact tb_nn (by assumption)) hs3 ?_
      refine rw_iconst (v := 1) F dc_X8_hold_40 rfl ?_
      refine rw_iret F dc_X8_hold_41 rfl rfl ?_
      exact ⟨by first | (simp only [f_X8_hold, g_X8_hold, if_neg c1, if_pos c2]; done) | rfl | (simp only [f_X8_hold, g_X8_hold, if_neg c1, if_pos c2]; rfl), by first | (simp only [f_X8_hold, g_X8_hold, if_neg c1, if_pos c2]; done) | rfl | (simp only [f_X8_hold, g_X8_hold, if_neg c1, if_pos c2]; rfl)⟩
    · rw [if_neg c2] at hp
      refine rw_aload_n F dc_X8_hold_15 rfl ?_
      refine rw_iload_n F dc_X8_hold_16 rfl ?_
      refine rw_cVi F [_] dc_X8_hold_17 mv_X8_isShip ml_RX8_119 (by decide) (rc_8 (by first | rfl | assumption | decide | exact r73_k (by assumption) | exact fb_k (by assumption) | exact sb_k (by assumption) | exact tb_k (by assumption) | exact sb_li (by assumption) | exact sb_s (by assumption) | exact tb_n (by assumption) | exact fb_k (sb_f (by assumption)))) rfl rfl (Nat.le_of_ble_eq_true rfl) ct_X8_isShip ?_
      refine rw_if_ne (tgt := 30) F dc_X8_hold_20 rfl (fun c4 => ?_) (fun c4 => ?_)
      · rw [if_neg c4] at hp
        refine rw_aload_n F dc_X8_hold_30 rfl ?_
        refine rw_getR F dc_X8_hold_31 fl_RX8_12 (by first | rfl | assumption | decide | exact r73_k (by assumption) | exact fb_k (by assumption) | exact sb_k (by assumption) | exact tb_k (by assumption) | exact sb_li (by assumption) | exact sb_s (by assumption) | exact tb_n (by assumption) | exact fb_k (sb_f (by assumption))) (by first | rfl | assumption | exact lk6 (by assumption) _ | exact lk2 (by assumption) _ | exact fb_l0 (by assumption) | exact fb_l1 (by assumption) | exact sb_l0 (by assumption) | exact sb_l1 (by assumption) | exact sb_l2 (by assumption) | exact sb_l3 (by assumption) | exact tb_l0 (by assumption) | exact tb_l1 (by assumption) | exact tb_l2 (by assumption) | exact lk2 (sb_li (by assumption)) _ | exact fb_l0 (sb_f (by assumption)) | exact fb_l1 (sb_f (by assumption))) ?_
        refine rw_getR F dc_X8_hold_34 fl_RX8_280 (by first | rfl | assumption | decide | exact r73_k (by assumption) | exact fb_k (by assumption) | exact sb_k (by assumption) | exact tb_k (by assumption) | exact sb_li (by assumption) | exact sb_s (by assumption) | exact tb_n (by assumption) | exact fb_k (sb_f (by assumption))) (by first | rfl | assumption | exact lk6 (by assumption) _ | exact lk2 (by assumption) _ | exact fb_l0 (by assumption) | exact fb_l1 (by assumption) | exact sb_l0 (by assumption) | exact sb_l1 (by assumption) | exact sb_l2 (by assumption) | exact sb_l3 (by assumption) | exact tb_l0 (by assumption) | exact tb_l1 (by assumption) | exact tb_l2 (by assumption) | exact lk2 (sb_li (by assumption)) _ | exact fb_l0 (sb_f (by assumption)) | exact fb_l1 (sb_f (by assumption))) ?_
        refine rw_iload_n F dc_X8_hold_37 rfl ?_
        refine rw_iload_n F dc_X8_hold_38 rfl ?_
        obtain ⟨hs5, hp⟩ := hp
        refine rw_isC F dc_X8_hold_39 (by first | rfl | assumption | decide | exact r73_k (by assumption) | exact fb_k (by assumption) | exact sb_k (by assumption) | exact tb_k (by assumption) | exact sb_li (by assumption) | exact sb_s (by assumption) | exact tb_n (by assumption) | exact fb_k (sb_f (by assumption))) (by first | rfl | exact r73_n (by assumption) | exact sb_sn (by assumption) | exact tb_nn (by assumption)) hs5 ?_
        refine rw_iconst (v := 1) F dc_X8_hold_40 rfl ?_
        refine rw_iret F dc_X8_hold_41 rfl rfl ?_
        exact ⟨by first | (simp only [f_X8_hold, g_X8_hold, if_neg c1, if_neg c2, if_neg c4]; done) | rfl | (simp only [f_X8_hold, g_X8_hold, if_neg c1, if_neg c2, if_neg c4]; rfl), by first | (simp only [f_X8_hold, g_X8_hold, if_neg c1, if_neg c2, if_neg c4]; done) | rfl | (simp only [f_X8_hold, g_X8_hold, if_neg c1, if_neg c2, if_neg c4]; rfl)⟩
      · rw [if_pos c4] at hp
        refine rw_aload_n F dc_X8_hold_23 rfl ?_
        refine rw_ldc F dc_X8_hold_24 kc_RX8_82 ?_
        refine rw_cVi F [_] dc_X8_hold_26 mv_X8_found ml_RX8_83 (by decide) (rc_8 (by first | rfl | assumption | decide | exact r73_k (by assumption) | exact fb_k (by assumption) | exact sb_k (by assumption) | exact tb_k (by assumption) | exact sb_li (by assumption) | exact sb_s (by assumption) | exact tb_n (by assumption) | exact fb_k (sb_f (by assumption)))) rfl rfl (Nat.le_of_ble_eq_true rfl) cn_X8_found ?_
        refine rw_iret F dc_X8_hold_29 rfl rfl ?_
        exact ⟨by first | (simp only [f_X8_hold, g_X8_hold, if_neg c1, if_neg c2, if_pos c4]; done) | rfl | (simp only [f_X8_hold, g_X8_hold, if_neg c1, if_neg c2, if_pos c4]; rfl), by first | (simp only [f_X8_hold, g_X8_hold, if_neg c1, if_neg c2, if_pos c4]; done) | rfl | (simp only [f_X8_hold, g_X8_hold, if_neg c1, if_neg c2, if_pos c4]; rfl)⟩
def f_X8_as (N : Nat)  (x1 : Int32) (x2 : Int32) (τ : tw_T) : Int32 := if (f_X8_within x1 0 9 τ) = (0 : Int32) then ((-1000001)) else (if (f_X8_within x2 0 6 τ) = (0 : Int32) then ((-1000001)) else (if (f_X8_isShip (τ 13 x1.toNatClampNeg) τ) = (0 : Int32) then ((-1000006)) else (if (f_X8_isUnder N (τ (3 + 2 + (τ 13 x1.toNatClampNeg).toNatClampNeg) 0) x2 τ) = (0 : Int32) then ((-1000003)) else (τ 13 x1.toNatClampNeg))))
def g_X8_as (N : Nat)  (x1 : Int32) (x2 : Int32) (τ : tw_T) : tw_T := if (f_X8_within x1 0 9 τ) = (0 : Int32) then (g_X8_found ((-1000001)) τ) else (if (f_X8_within x2 0 6 τ) = (0 : Int32) then (g_X8_found ((-1000001)) τ) else (if (f_X8_isShip (τ 13 x1.toNatClampNeg) τ) = (0 : Int32) then (g_X8_found ((-1000006)) τ) else (if (f_X8_isUnder N (τ (3 + 2 + (τ 13 x1.toNatClampNeg).toNatClampNeg) 0) x2 τ) = (0 : Int32) then (g_X8_found ((-1000003)) τ) else τ)))
def p_X8_as (N : Nat)  (x1 : Int32) (x2 : Int32) (τ : tw_T) : Prop := if (f_X8_within x1 0 9 τ) = (0 : Int32) then True else (if (f_X8_within x2 0 6 τ) = (0 : Int32) then True else (vp_in x1 10 ∧ (if (f_X8_isShip (τ 13 x1.toNatClampNeg) τ) = (0 : Int32) then True else (vp_in (τ 13 x1.toNatClampNeg) 8 ∧ (p_X8_isUnder N (τ (3 + 2 + (τ 13 x1.toNatClampNeg).toNatClampNeg) 0) x2 τ ∧ True)))))
theorem ct_X8_as {E : tw_E}  {N : Nat}  {x1 : Int32} {x2 : Int32} {τ : tw_T} (hp : p_X8_as N x1 x2 τ)  : tw_Ci E 3 mX8_as [.ref 0, .int x1, .int x2] τ (f_X8_as N x1 x2 τ) (g_X8_as N x1 x2 τ) := by
  unfold p_X8_as at hp
  refine ct_of (by decide) (by simp [Value.category]) (Nat.le_of_ble_eq_true rfl) (fun K hE F => ?_)
  subst hE
  refine rw_iload_n F dc_X8_as_0 rfl ?_
  refine rw_iconst (v := 0) F dc_X8_as_1 rfl ?_
  refine rw_bipush (v := 9) F dc_X8_as_2 rfl ?_
  refine rw_cSi F [_, _, _] dc_X8_as_4 ms_X8_within ml_RX8_97 (by decide)  rfl rfl (Nat.le_of_ble_eq_true rfl) ct_X8_within ?_
  refine rw_if_eq (tgt := 20) F dc_X8_as_7 rfl (fun c1 => ?_) (fun c1 => ?_)
  · rw [if_pos c1] at hp
    refine rw_aload_n F dc_X8_as_20 rfl ?_
    refine rw_ldc F dc_X8_as_21 kc_RX8_82 ?_
    refine rw_cVi F [_] dc_X8_as_23 mv_X8_found ml_RX8_83 (by decide) (rc_8 (by first | rfl | assumption | decide | exact r73_k (by assumption) | exact fb_k (by assumption) | exact sb_k (by assumption) | exact tb_k (by assumption) | exact sb_li (by assumption) | exact sb_s (by assumption) | exact tb_n (by assumption) | exact fb_k (sb_f (by assumption)))) rfl rfl (Nat.le_of_ble_eq_true rfl) cn_X8_found ?_
    refine rw_iret F dc_X8_as_26 rfl rfl ?_
    exact ⟨by first | (simp only [f_X8_as, g_X8_as, if_pos c1]; done) | rfl | (simp only [f_X8_as, g_X8_as, if_pos c1]; rfl), by first | (simp only [f_X8_as, g_X8_as, if_pos c1]; done) | rfl | (simp only [f_X8_as, g_X8_as, if_pos c1]; rfl)⟩
  · rw [if_neg c1] at hp
    refine rw_iload_n F dc_X8_as_10 rfl ?_
    refine rw_iconst (v := 0) F dc_X8_as_11 rfl ?_
    refine rw_bipush (v := 6) F dc_X8_as_12 rfl ?_
    refine rw_cSi F [_, _, _] dc_X8_as_14 ms_X8_within ml_RX8_97 (by decide)  rfl rfl (Nat.le_of_ble_eq_true rfl) ct_X8_within ?_
    refine rw_if_ne (tgt := 27) F dc_X8_as_17 rfl (fun c2 => ?_) (fun c2 => ?_)
    · rw [if_neg c2] at hp
      refine rw_aload_n F dc_X8_as_27 rfl ?_
      refine rw_getR F dc_X8_as_28 fl_RX8_12 (by first | rfl | assumption | decide | exact r73_k (by assumption) | exact fb_k (by assumption) | exact sb_k (by assumption) | exact tb_k (by assumption) | exact sb_li (by assumption) | exact sb_s (by assumption) | exact tb_n (by assumption) | exact fb_k (sb_f (by assumption))) (by first | rfl | assumption | exact lk6 (by assumption) _ | exact lk2 (by assumption) _ | exact fb_l0 (by assumption) | exact fb_l1 (by assumption) | exact sb_l0 (by assumption) | exact sb_l1 (by assumption) | exact sb_l2 (by assumption) | exact sb_l3 (by assumption) | exact tb_l0 (by assumption) | exact tb_l1 (by assumption) | exact tb_l2 (by assumption) | exact lk2 (sb_li (by assumption)) _ | exact fb_l0 (sb_f (by assumption)) | exact fb_l1 (sb_f (by assumption))) ?_
      refine rw_getR F dc_X8_as_31 fl_RX8_280 (by first | rfl | assumption | decide | exact r73_k (by assumption) | exact fb_k (by assumption) | exact sb_k (by assumption) | exact tb_k (by assumption) | exact sb_li (by assumption) | exact sb_s (by assumption) | exact tb_n (by assumption) | exact fb_k (sb_f (by assumption))) (by first | rfl | assumption | exact lk6 (by assumption) _ | exact lk2 (by assumption) _ | exact fb_l0 (by assumption) | exact fb_l1 (by assumption) | exact sb_l0 (by assumption) | exact sb_l1 (by assumption) | exact sb_l2 (by assumption) | exact sb_l3 (by assumption) | exact tb_l0 (by assumption) | exact tb_l1 (by assumption) | exact tb_l2 (by assumption) | exact lk2 (sb_li (by assumption)) _ | exact fb_l0 (sb_f (by assumption)) | exact fb_l1 (sb_f (by assumption))) ?_
      refine rw_iload_n F dc_X8_as_34 rfl ?_
      obtain ⟨hs3, hp⟩ := hp
      refine rw_iaC F dc_X8_as_35 (by first | rfl | assumption | decide | exact r73_k (by assumption) | exact fb_k (by assumption) | exact sb_k (by assumption) | exact tb_k (by assumption) | exact sb_li (by assumption) | exact sb_s (by assumption) | exact tb_n (by assumption) | exact fb_k (sb_f (by assumption))) (by first | rfl | exact r73_n (by assumption) | exact sb_sn (by assumption) | exact tb_nn (by assumption)) hs3 ?_
      refine rw_istore_n F dc_X8_as_36 (by decide) rfl ?_
      refine rw_aload_n F dc_X8_as_37 rfl ?_
      refine rw_iload_n F dc_X8_as_38 rfl ?_
      refine rw_cVi F [_] dc_X8_as_39 mv_X8_isShip ml_RX8_119 (by decide) (rc_8 (by first | rfl | assumption | decide | exact r73_k (by assumption) | exact fb_k (by assumption) | exact sb_k (by assumption) | exact tb_k (by assumption) | exact sb_li (by assumption) | exact sb_s (by assumption) | exact tb_n (by assumption) | exact fb_k (sb_f (by assumption)))) rfl rfl (Nat.le_of_ble_eq_true rfl) ct_X8_isShip ?_
      refine rw_if_ne (tgt := 53) F dc_X8_as_42 rfl (fun c4 => ?_) (fun c4 => ?_)
      · rw [if_neg c4] at hp
        refine rw_aload_n F dc_X8_as_53 rfl ?_
        refine rw_getR F dc_X8_as_54 fl_RX8_12 (by first | rfl | assumption | decide | exact r73_k (by assumption) | exact fb_k (by assumption) | exact sb_k (by assumption) | exact tb_k (by assumption) | exact sb_li (by assumption) | exact sb_s (by assumption) | exact tb_n (by assumption) | exact fb_k (sb_f (by assumption))) (by first | rfl | assumption | exact lk6 (by assumption) _ | exact lk2 (by assumption) _ | exact fb_l0 (by assumption) | exact fb_l1 (by assumption) | exact sb_l0 (by assumption) | exact sb_l1 (by assumption) | exact sb_l2 (by assumption) | exact sb_l3 (by assumption) | exact tb_l0 (by assumption) | exact tb_l1 (by assumption) | exact tb_l2 (by assumption) | exact lk2 (sb_li (by assumption)) _ | exact fb_l0 (sb_f (by assumption)) | exact fb_l1 (sb_f (by assumption))) ?_
        refine rw_getR F dc_X8_as_57 fl_RX8_101 (by first | rfl | assumption | decide | exact r73_k (by assumption) | exact fb_k (by assumption) | exact sb_k (by assumption) | exact tb_k (by assumption) | exact sb_li (by assumption) | exact sb_s (by assumption) | exact tb_n (by assumption) | exact fb_k (sb_f (by assumption))) (by first | rfl | assumption | exact lk6 (by assumption) _ | exact lk2 (by assumption) _ | exact fb_l0 (by assumption) | exact fb_l1 (by assumption) | exact sb_l0 (by assumption) | exact sb_l1 (by assumption) | exact sb_l2 (by assumption) | exact sb_l3 (by assumption) | exact tb_l0 (by assumption) | exact tb_l1 (by assumption) | exact tb_l2 (by assumption) | exact lk2 (sb_li (by assumption)) _ | exact fb_l0 (sb_f (by assumption)) | exact fb_l1 (sb_f (by assumption))) ?_
        refine rw_getR F dc_X8_as_60 fl_RX8_123 (by first | rfl | assumption | decide | exact r73_k (by assumption) | exact fb_k (by assumption) | exact sb_k (by assumption) | exact tb_k (by assumption) | exact sb_li (by assumption) | exact sb_s (by assumption) | exact tb_n (by assumption) | exact fb_k (sb_f (by assumption))) (by first | rfl | assumption | exact lk6 (by assumption) _ | exact lk2 (by assumption) _ | exact fb_l0 (by assumption) | exact fb_l1 (by assumption) | exact sb_l0 (by assumption) | exact sb_l1 (by assumption) | exact sb_l2 (by assumption) | exact sb_l3 (by assumption) | exact tb_l0 (by assumption) | exact tb_l1 (by assumption) | exact tb_l2 (by assumption) | exact lk2 (sb_li (by assumption)) _ | exact fb_l0 (sb_f (by assumption)) | exact fb_l1 (sb_f (by assumption))) ?_
        refine rw_iload_n F dc_X8_as_63 rfl ?_
        obtain ⟨hs5, hp⟩ := hp
        refine rw_aaShip F dc_X8_as_64 (by first | assumption | exact (show _ ∈ tw_fbL by decide) | exact sb_f (by assumption)) hs5 (fun hk6 => ?_)
        refine rw_getI F dc_X8_as_65 fl_RX8_248 (by first | rfl | assumption | decide | exact r73_k (by assumption) | exact fb_k (by assumption) | exact sb_k (by assumption) | exact tb_k (by assumption) | exact sb_li (by assumption) | exact sb_s (by assumption) | exact tb_n (by assumption) | exact fb_k (sb_f (by assumption))) (by first | rfl | assumption | exact lk6 (by assumption) _ | exact lk2 (by assumption) _ | exact fb_l0 (by assumption) | exact fb_l1 (by assumption) | exact sb_l0 (by assumption) | exact sb_l1 (by assumption) | exact sb_l2 (by assumption) | exact sb_l3 (by assumption) | exact tb_l0 (by assumption) | exact tb_l1 (by assumption) | exact tb_l2 (by assumption) | exact lk2 (sb_li (by assumption)) _ | exact fb_l0 (sb_f (by assumption)) | exact fb_l1 (sb_f (by assumption))) ?_
        refine rw_iload_n F dc_X8_as_68 rfl ?_
        obtain ⟨hs7, hp⟩ := hp
        refine rw_cSi F [_, _] dc_X8_as_69 ms_X8_isUnder ml_RX8_284 (by decide)  rfl rfl (Nat.le_of_ble_eq_true rfl) (cr_X8_isUnder hs7) ?_
        refine rw_if_eq (tgt := 79) F dc_X8_as_72 rfl (fun c8 => ?_) (fun c8 => ?_)
        · refine rw_aload_n F dc_X8_as_79 rfl ?_
          refine rw_ldcw F dc_X8_as_80 kc_RX8_287 ?_
          refine rw_cVi F [_] dc_X8_as_83 mv_X8_found ml_RX8_83 (by decide) (rc_8 (by first | rfl | assumption | decide | exact r73_k (by assumption) | exact fb_k (by assumption) | exact sb_k (by assumption) | exact tb_k (by assumption) | exact sb_li (by assumption) | exact sb_s (by assumption) | exact tb_n (by assumption) | exact fb_k (sb_f (by assumption)))) rfl rfl (Nat.le_of_ble_eq_true rfl) cn_X8_found ?_
          refine rw_iret F dc_X8_as_86 rfl rfl ?_
          exact ⟨by first | (simp only [f_X8_as, g_X8_as, if_neg c1, if_neg c2, if_neg c4, if_pos c8]; done) | rfl | (simp only [f_X8_as, g_X8_as, if_neg c1, if_neg c2, if_neg c4, if_pos c8]; rfl), by first | (simp only [f_X8_as, g_X8_as, if_neg c1, if_neg c2, if_neg c4, if_pos c8]; done) | rfl | (simp only [f_X8_as, g_X8_as, if_neg c1, if_neg c2, if_neg c4, if_pos c8]; rfl)⟩
        · refine rw_iload_n F dc_X8_as_75 rfl ?_
          refine rw_goto (tgt := 86) F dc_X8_as_76 rfl ?_
          refine rw_iret F dc_X8_as_86 rfl rfl ?_
          exact ⟨by first | (simp only [f_X8_as, g_X8_as, if_neg c1, if_neg c2, if_neg c4, if_neg c8]; done) | rfl | (simp only [f_X8_as, g_X8_as, if_neg c1, if_neg c2, if_neg c4, if_neg c8]; rfl), by first | (simp only [f_X8_as, g_X8_as, if_neg c1, if_neg c2, if_neg c4, if_neg c8]; done) | rfl | (simp only [f_X8_as, g_X8_as, if_neg c1, if_neg c2, if_neg c4, if_neg c8]; rfl)⟩
      · rw [if_pos c4] at hp
        refine rw_aload_n F dc_X8_as_45 rfl ?_
        refine rw_ldcw F dc_X8_as_46 kc_RX8_283 ?_
        refine rw_cVi F [_] dc_X8_as_49 mv_X8_found ml_RX8_83 (by decide) (rc_8 (by first | rfl | assumption | decide | exact r73_k (by assumption) | exact fb_k (by assumption) | exact sb_k (by assumption) | exact tb_k (by assumption) | exact sb_li (by assumption) | exact sb_s (by assumption) | exact tb_n (by assumption) | exact fb_k (sb_f (by assumption)))) rfl rfl (Nat.le_of_ble_eq_true rfl) cn_X8_found ?_
        refine rw_iret F dc_X8_as_52 rfl rfl ?_
        exact ⟨by first | (simp only [f_X8_as, g_X8_as, if_neg c1, if_neg c2, if_pos c4]; done) | rfl | (simp only [f_X8_as, g_X8_as, if_neg c1, if_neg c2, if_pos c4]; rfl), by first | (simp only [f_X8_as, g_X8_as, if_neg c1, if_neg c2, if_pos c4]; done) | rfl | (simp only [f_X8_as, g_X8_as, if_neg c1, if_neg c2, if_pos c4]; rfl)⟩
    · rw [if_pos c2] at hp
      refine rw_aload_n F dc_X8_as_20 rfl ?_
      refine rw_ldc F dc_X8_as_21 kc_RX8_82 ?_
      refine rw_cVi F [_] dc_X8_as_23 mv_X8_found ml_RX8_83 (by decide) (rc_8 (by first | rfl | assumption | decide | exact r73_k (by assumption) | exact fb_k (by assumption) | exact sb_k (by assumption) | exact tb_k (by assumption) | exact sb_li (by assumption) | exact sb_s (by assumption) | exact tb_n (by assumption) | exact fb_k (sb_f (by assumption)))) rfl rfl (Nat.le_of_ble_eq_true rfl) cn_X8_found ?_
      refine rw_iret F dc_X8_as_26 rfl rfl ?_
      exact ⟨by first | (simp only [f_X8_as, g_X8_as, if_neg c1, if_pos c2]; done) | rfl | (simp only [f_X8_as, g_X8_as, if_neg c1, if_pos c2]; rfl), by first | (simp only [f_X8_as, g_X8_as, if_neg c1, if_pos c2]; done) | rfl | (simp only [f_X8_as, g_X8_as, if_neg c1, if_pos c2]; rfl)⟩
def f_X8_sheet (N : Nat)  (x1 : Int32) (x2 : Int32) (x3 : Int32) (τ : tw_T) : Int32 := if x2 = (0 : Int32) then (if (f_X8_within x1 0 3 τ) = (0 : Int32) then ((-1000001)) else (if (0 : Int32) ≤ x3 then (if x3 ≤ (40 : Int32) then ((g_X5_renew N (182 + 2 * x1.toNatClampNeg) x2 x3 τ) (182 + 2 * x1.toNatClampNeg) 2) else ((-1000001))) else ((-1000007)))) else (if x2 = (8 : Int32) then (if (f_X8_within x1 0 3 τ) = (0 : Int32) then ((-1000001)) else (if (0 : Int32) ≤ x3 then (if x3 ≤ (40 : Int32) then ((g_X5_renew N (182 + 2 * x1.toNatClampNeg) x2 x3 τ) (182 + 2 * x1.toNatClampNeg) 2) else ((-1000001))) else ((-1000007)))) else (if x2 = (16 : Int32) then (if (f_X8_within x1 0 3 τ) = (0 : Int32) then ((-1000001)) else (if (0 : Int32) ≤ x3 then (if x3 ≤ (40 : Int32) then ((g_X5_renew N (182 + 2 * x1.toNatClampNeg) x2 x3 τ) (182 + 2 * x1.toNatClampNeg) 2) else ((-1000001))) else ((-1000007)))) else (if x2 = (32 : Int32) then (if (f_X8_within x1 0 3 τ) = (0 : Int32) then ((-1000001)) else (if (0 : Int32) ≤ x3 then (if x3 ≤ (40 : Int32) then ((g_X5_renew N (182 + 2 * x1.toNatClampNeg) x2 x3 τ) (182 + 2 * x1.toNatClampNeg) 2) else ((-1000001))) else ((-1000007)))) else (if (f_X8_within x1 0 3 τ) = (0 : Int32) then ((-1000001)) else ((-1000001))))))
def g_X8_sheet (N : Nat)  (x1 : Int32) (x2 : Int32) (x3 : Int32) (τ : tw_T) : tw_T := if x2 = (0 : Int32) then (if (f_X8_within x1 0 3 τ) = (0 : Int32) then (g_X8_found ((-1000001)) τ) else (if (0 : Int32) ≤ x3 then (if x3 ≤ (40 : Int32) then (g_X5_renew N (182 + 2 * x1.toNatClampNeg) x2 x3 τ) else (g_X8_found ((-1000001)) τ)) else (g_X8_found ((-1000007)) τ))) else (if x2 = (8 : Int32) then (if (f_X8_within x1 0 3 τ) = (0 : Int32) then (g_X8_found ((-1000001)) τ) else (if (0 : Int32) ≤ x3 then (if x3 ≤ (40 : Int32) then (g_X5_renew N (182 + 2 * x1.toNatClampNeg) x2 x3 τ) else (g_X8_found ((-1000001)) τ)) else (g_X8_found ((-1000007)) τ))) else (if x2 = (16 : Int32) then (if (f_X8_within x1 0 3 τ) = (0 : Int32) then (g_X8_found ((-1000001)) τ) else (if (0 : Int32) ≤ x3 then (if x3 ≤ (40 : Int32) then (g_X5_renew N (182 + 2 * x1.toNatClampNeg) x2 x3 τ) else (g_X8_found ((-1000001)) τ)) else (g_X8_found ((-1000007)) τ))) else (if x2 = (32 : Int32) then (if (f_X8_within x1 0 3 τ) = (0 : Int32) then (g_X8_found ((-1000001)) τ) else (if (0 : Int32) ≤ x3 then (if x3 ≤ (40 : Int32) then (g_X5_renew N (182 + 2 * x1.toNatClampNeg) x2 x3 τ) else (g_X8_found ((-1000001)) τ)) else (g_X8_found ((-1000007)) τ))) else (g_X8_found ((-1000001)) τ))))
def p_X8_sheet (N : Nat)  (x1 : Int32) (x2 : Int32) (x3 : Int32) (τ : tw_T) : Prop := if x2 = (0 : Int32) then (if (f_X8_within x1 0 3 τ) = (0 : Int32) then True else (if (0 : Int32) ≤ x3 then (if x3 ≤ (40 : Int32) then (vp_in x1 4 ∧ (p_X5_renew N (182 + 2 * x1.toNatClampNeg) x2 x3 τ ∧ (vp_in x1 4 ∧ True))) else True) else True)) else (if x2 = (8 : Int32) then (if (f_X8_within x1 0 3 τ) = (0 : Int32) then True else (if (0 : Int32) ≤ x3 then (if x3 ≤ (40 : Int32) then (vp_in x1 4 ∧ (p_X5_renew N (182 + 2 * x1.toNatClampNeg) x2 x3 τ ∧ (vp_in x1 4 ∧ True))) else True) else True)) else (if x2 = (16 : Int32) then (if (f_X8_within x1 0 3 τ) = (0 : Int32) then True else (if (0 : Int32) ≤ x3 then (if x3 ≤ (40 : Int32) then (vp_in x1 4 ∧ (p_X5_renew N (182 + 2 * x1.toNatClampNeg) x2 x3 τ ∧ (vp_in x1 4 ∧ True))) else True) else True)) else (if x2 = (32 : Int32) then (if (f_X8_within x1 0 3 τ) = (0 : Int32) then True else (if (0 : Int32) ≤ x3 then (if x3 ≤ (40 : Int32) then (vp_in x1 4 ∧ (p_X5_renew N (182 + 2 * x1.toNatClampNeg) x2 x3 τ ∧ (vp_in x1 4 ∧ True))) else True) else True)) else True)))
theorem ct_X8_sheet {E : tw_E}  {N : Nat}  {x1 : Int32} {x2 : Int32} {x3 : Int32} {τ : tw_T} (hp : p_X8_sheet N x1 x2 x3 τ)  : tw_Ci E 3 mX8_sheet [.ref 0, .int x1, .int x2, .int x3] τ (f_X8_sheet N x1 x2 x3 τ) (g_X8_sheet N x1 x2 x3 τ) := by
  unfold p_X8_sheet at hp
  refine ct_of (by decide) (by simp [Value.category]) (Nat.le_of_ble_eq_true rfl) (fun K hE F => ?_)
  subst hE
  refine rw_iload_n F dc_X8_sheet_0 rfl ?_
  refine rw_if_eq (tgt := 22) F dc_X8_sheet_1 rfl (fun c1 => ?_) (fun c1 => ?_)
  · rw [if_pos c1] at hp
    refine rw_iconst (v := 1) F dc_X8_sheet_22 rfl ?_
    refine rw_goto (tgt := 27) F dc_X8_sheet_23 rfl ?_
    refine rw_istore F dc_X8_sheet_27 (by decide) rfl ?_
    refine rw_iload_n F dc_X8_sheet_29 rfl ?_
    refine rw_iconst (v := 0) F dc_X8_sheet_30 rfl ?_
    refine rw_iconst (v := 3) F dc_X8_sheet_31 rfl ?_
    refine rw_cSi F [_, _, _] dc_X8_sheet_32 ms_X8_within ml_RX8_97 (by decide)  rfl rfl (Nat.le_of_ble_eq_true rfl) ct_X8_within ?_
    refine rw_if_eq (tgt := 43) F dc_X8_sheet_35 rfl (fun c2 => ?_) (fun c2 => ?_)
    · rw [if_pos c2] at hp
      refine rw_aload_n F dc_X8_sheet_43 rfl ?_
      refine rw_ldc F dc_X8_sheet_44 kc_RX8_82 ?_
      refine rw_cVi F [_] dc_X8_sheet_46 mv_X8_found ml_RX8_83 (by decide) (rc_8 (by first | rfl | assumption | decide | exact r73_k (by assumption) | exact fb_k (by assumption) | exact sb_k (by assumption) | exact tb_k (by assumption) | exact sb_li (by assumption) | exact sb_s (by assumption) | exact tb_n (by assumption) | exact fb_k (sb_f (by assumption)))) rfl rfl (Nat.le_of_ble_eq_true rfl) cn_X8_found ?_
      refine rw_iret F dc_X8_sheet_49 rfl rfl ?_
      exact ⟨by first | (simp only [f_X8_sheet, g_X8_sheet, if_pos c1, if_pos c2]; done) | rfl | (simp only [f_X8_sheet, g_X8_sheet, if_pos c1, if_pos c2]; rfl), by first | (simp only [f_X8_sheet, g_X8_sheet, if_pos c1, if_pos c2]; done) | rfl | (simp only [f_X8_sheet, g_X8_sheet, if_pos c1, if_pos c2]; rfl)⟩
    · rw [if_neg c2] at hp
      refine rw_iload F dc_X8_sheet_38 rfl ?_
      refine rw_if_ne (tgt := 50) F dc_X8_sheet_40 rfl (fun c3 => ?_) (fun c3 => ?_)
      · refine rw_iload_n F dc_X8_sheet_50 rfl ?_
        refine rw_if_ge (tgt := 62) F dc_X8_sheet_51 rfl (fun c4 => ?_) (fun c4 => ?_)
        · rw [if_pos c4] at hp
          refine rw_iload_n F dc_X8_sheet_62 rfl ?_
          refine rw_bipush (v := 40) F dc_X8_sheet_63 rfl ?_
          refine rw_icmp_le (tgt := 75) F dc_X8_sheet_65 rfl (fun c5 => ?_) (fun c5 => ?_)
          · rw [if_pos c5] at hp
            refine rw_aload_n F dc_X8_sheet_75 rfl ?_
            refine rw_getR F dc_X8_sheet_76 fl_RX8_32 (by first | rfl | assumption | decide | exact r73_k (by assumption) | exact fb_k (by assumption) | exact sb_k (by assumption) | exact tb_k (by assumption) | exact sb_li (by assumption) | exact sb_s (by assumption) | exact tb_n (by assumption) | exact fb_k (sb_f (by assumption))) (by first | rfl | assumption | exact lk6 (by assumption) _ | exact lk2 (by assumption) _ | exact fb_l0 (by assumption) | exact fb_l1 (by assumption) | exact sb_l0 (by assumption) | exact sb_l1 (by assumption) | exact sb_l2 (by assumption) | exact sb_l3 (by assumption) | exact tb_l0 (by assumption) | exact tb_l1 (by assumption) | exact tb_l2 (by assumption) | exact lk2 (sb_li (by assumption)) _ | exact fb_l0 (sb_f (by assumption)) | exact fb_l1 (sb_f (by assumption))) ?_
            refine rw_iload_n F dc_X8_sheet_79 rfl ?_
            obtain ⟨hs6, hp⟩ := hp
            refine rw_aaSheet F dc_X8_sheet_80 hs6 (fun hk7 => ?_)
            refine rw_iload_n F dc_X8_sheet_81 rfl ?_
            refine rw_iload_n F dc_X8_sheet_82 rfl ?_
            obtain ⟨hs8, hp⟩ := hp
            refine rw_cVv F [_, _] dc_X8_sheet_83 mv_X5_renew ml_RX8_289 (by decide) (rc_5 (by first | rfl | assumption | decide | exact r73_k (by assumption) | exact fb_k (by assumption) | exact sb_k (by assumption) | exact tb_k (by assumption) | exact sb_li (by assumption) | exact sb_s (by assumption) | exact tb_n (by assumption) | exact fb_k (sb_f (by assumption)))) rfl rfl (Nat.le_of_ble_eq_true rfl) (cr_X5_renew hs8) ?_
            refine rw_aload_n F dc_X8_sheet_86 rfl ?_
            refine rw_getR F dc_X8_sheet_87 fl_RX8_32 (by first | rfl | assumption | decide | exact r73_k (by assumption) | exact fb_k (by assumption) | exact sb_k (by assumption) | exact tb_k (by assumption) | exact sb_li (by assumption) | exact sb_s (by assumption) | exact tb_n (by assumption) | exact fb_k (sb_f (by assumption))) (by first | rfl | assumption | exact lk6 (by assumption) _ | exact lk2 (by assumption) _ | exact fb_l0 (by assumption) | exact fb_l1 (by assumption) | exact sb_l0 (by assumption) | exact sb_l1 (by assumption) | exact sb_l2 (by assumption) | exact sb_l3 (by assumption) | exact tb_l0 (by assumption) | exact tb_l1 (by assumption) | exact tb_l2 (by assumption) | exact lk2 (sb_li (by assumption)) _ | exact fb_l0 (sb_f (by assumption)) | exact fb_l1 (sb_f (by assumption))) ?_
            refine rw_iload_n F dc_X8_sheet_90 rfl ?_
            obtain ⟨hs9, hp⟩ := hp
            refine rw_aaSheet F dc_X8_sheet_91 hs9 (fun hk10 => ?_)
            refine rw_getI F dc_X8_sheet_92 fl_RX8_292 (by first | rfl | assumption | decide | exact r73_k (by assumption) | exact fb_k (by assumption) | exact sb_k (by assumption) | exact tb_k (by assumption) | exact sb_li (by assumption) | exact sb_s (by assumption) | exact tb_n (by assumption) | exact fb_k (sb_f (by assumption))) (by first | rfl | assumption | exact lk6 (by assumption) _ | exact lk2 (by assumption) _ | exact fb_l0 (by assumption) | exact fb_l1 (by assumption) | exact sb_l0 (by assumption) | exact sb_l1 (by assumption) | exact sb_l2 (by assumption) | exact sb_l3 (by assumption) | exact tb_l0 (by assumption) | exact tb_l1 (by assumption) | exact tb_l2 (by assumption) | exact lk2 (sb_li (by assumption)) _ | exact fb_l0 (sb_f (by assumption)) | exact fb_l1 (sb_f (by assumption))) ?_
            refine rw_iret F dc_X8_sheet_95 rfl rfl ?_
            exact ⟨by first | (simp only [f_X8_sheet, g_X8_sheet, if_pos c1, if_neg c2, if_pos c4, if_pos c5]; done) | rfl | (simp only [f_X8_sheet, g_X8_sheet, if_pos c1, if_neg c2, if_pos c4, if_pos c5]; rfl), by first | (simp only [f_X8_sheet, g_X8_sheet, if_pos c1, if_neg c2, if_pos c4, if_pos c5]; done) | rfl | (simp only [f_X8_sheet, g_X8_sheet, if_pos c1, if_neg c2, if_pos c4, if_pos c5]; rfl)⟩
          · rw [if_neg c5] at hp
            refine rw_aload_n F dc_X8_sheet_68 rfl ?_
            refine rw_ldc F dc_X8_sheet_69 kc_RX8_82 ?_
            refine rw_cVi F [_] dc_X8_sheet_71 mv_X8_found ml_RX8_83 (by decide) (rc_8 (by first | rfl | assumption | decide | exact r73_k (by assumption) | exact fb_k (by assumption) | exact sb_k (by assumption) | exact tb_k (by assumption) | exact sb_li (by assumption) | exact sb_s (by assumption) | exact tb_n (by assumption) | exact fb_k (sb_f (by assumption)))) rfl rfl (Nat.le_of_ble_eq_true rfl) cn_X8_found ?_
            refine rw_iret F dc_X8_sheet_74 rfl rfl ?_
            exact ⟨by first | (simp only [f_X8_sheet, g_X8_sheet, if_pos c1, if_neg c2, if_pos c4, if_neg c5]; done) | rfl | (simp only [f_X8_sheet, g_X8_sheet, if_pos c1, if_neg c2, if_pos c4, if_neg c5]; rfl), by first | (simp only [f_X8_sheet, g_X8_sheet, if_pos c1, if_neg c2, if_pos c4, if_neg c5]; done) | rfl | (simp only [f_X8_sheet, g_X8_sheet, if_pos c1, if_neg c2, if_pos c4, if_neg c5]; rfl)⟩
        · rw [if_neg c4] at hp
          refine rw_aload_n F dc_X8_sheet_54 rfl ?_
          refine rw_ldcw F dc_X8_sheet_55 kc_RX8_288 ?_
          refine rw_cVi F [_] dc_X8_sheet_58 mv_X8_found ml_RX8_83 (by decide) (rc_8 (by first | rfl | assumption | decide | exact r73_k (by assumption) | exact fb_k (by assumption) | exact sb_k (by assumption) | exact tb_k (by assumption) | exact sb_li (by assumption) | exact sb_s (by assumption) | exact tb_n (by assumption) | exact fb_k (sb_f (by assumption)))) rfl rfl (Nat.le_of_ble_eq_true rfl) cn_X8_found ?_
          refine rw_iret F dc_X8_sheet_61 rfl rfl ?_
          exact ⟨by first | (simp only [f_X8_sheet, g_X8_sheet, if_pos c1, if_neg c2, if_neg c4]; done) | rfl | (simp only [f_X8_sheet, g_X8_sheet, if_pos c1, if_neg c2, if_neg c4]; rfl), by first | (simp only [f_X8_sheet, g_X8_sheet, if_pos c1, if_neg c2, if_neg c4]; done) | rfl | (simp only [f_X8_sheet, g_X8_sheet, if_pos c1, if_neg c2, if_neg c4]; rfl)⟩
      · exact absurd c3 (by decide)
  · rw [if_neg c1] at hp
    refine rw_iload_n F dc_X8_sheet_4 rfl ?_
    refine rw_bipush (v := 8) F dc_X8_sheet_5 rfl ?_
    refine rw_icmp_eq (tgt := 22) F dc_X8_sheet_7 rfl (fun c11 => ?_) (fun c11 => ?_)
    · rw [if_pos c11] at hp
      refine rw_iconst (v := 1) F dc_X8_sheet_22 rfl ?_
      refine rw_goto (tgt := 27) F dc_X8_sheet_23 rfl ?_
      refine rw_istore F dc_X8_sheet_27 (by decide) rfl ?_
      refine rw_iload_n F dc_X8_sheet_29 rfl ?_
      refine rw_iconst (v := 0) F dc_X8_sheet_30 rfl ?_
      refine rw_iconst (v := 3) F dc_X8_sheet_31 rfl ?_
      refine rw_cSi F [_, _, _] dc_X8_sheet_32 ms_X8_within ml_RX8_97 (by decide)  rfl rfl (Nat.le_of_ble_eq_true rfl) ct_X8_within ?_
      refine rw_if_eq (tgt := 43) F dc_X8_sheet_35 rfl (fun c12 => ?_) (fun c12 => ?_)
      · rw [if_pos c12] at hp
        refine rw_aload_n F dc_X8_sheet_43 rfl ?_
        refine rw_ldc F dc_X8_sheet_44 kc_RX8_82 ?_
        refine rw_cVi F [_] dc_X8_sheet_46 mv_X8_found ml_RX8_83 (by decide) (rc_8 (by first | rfl | assumption | decide | exact r73_k (by assumption) | exact fb_k (by assumption) | exact sb_k (by assumption) | exact tb_k (by assumption) | exact sb_li (by assumption) | exact sb_s (by assumption) | exact tb_n (by assumption) | exact fb_k (sb_f (by assumption)))) rfl rfl (Nat.le_of_ble_eq_true rfl) cn_X8_found ?_
        refine rw_iret F dc_X8_sheet_49 rfl rfl ?_
        exact ⟨by first | (simp only [f_X8_sheet, g_X8_sheet, if_neg c1, if_pos c11, if_pos c12]; done) | rfl | (simp only [f_X8_sheet, g_X8_sheet, if_neg c1, if_pos c11, if_pos c12]; rfl), by first | (simp only [f_X8_sheet, g_X8_sheet, if_neg c1, if_pos c11, if_pos c12]; done) | rfl | (simp only [f_X8_sheet, g_X8_sheet, if_neg c1, if_pos c11, if_pos c12]; rfl)⟩
      · rw [if_neg c12] at hp
        refine rw_iload F dc_X8_sheet_38 rfl ?_
        refine rw_if_ne (tgt := 50) F dc_X8_sheet_40 rfl (fun c13 => ?_) (fun c13 => ?_)
        · refine rw_iload_n F dc_X8_sheet_50 rfl ?_
          refine rw_if_ge (tgt := 62) F dc_X8_sheet_51 rfl (fun c14 => ?_) (fun c14 => ?_)
          · rw [if_pos c14] at hp
            refine rw_iload_n F dc_X8_sheet_62 rfl ?_
            refine rw_bipush (v := 40) F dc_X8_sheet_63 rfl ?_
            refine rw_icmp_le (tgt := 75) F dc_X8_sheet_65 rfl (fun c15 => ?_) (fun c15 => ?_)
            · rw [if_pos c15] at hp
              refine rw_aload_n F dc_X8_sheet_75 rfl ?_
              refine rw_getR F dc_X8_sheet_76 fl_RX8_32 (by first | rfl | assumption | decide | exact r73_k (by assumption) | exact fb_k (by assumption) | exact sb_k (by assumption) | exact tb_k (by assumption) | exact sb_li (by assumption) | exact sb_s (by assumption) | exact tb_n (by assumption) | exact fb_k (sb_f (by assumption))) (by first | rfl | assumption | exact lk6 (by assumption) _ | exact lk2 (by assumption) _ | exact fb_l0 (by assumption) | exact fb_l1 (by assumption) | exact sb_l0 (by assumption) | exact sb_l1 (by assumption) | exact sb_l2 (by assumption) | exact sb_l3 (by assumption) | exact tb_l0 (by assumption) | exact tb_l1 (by assumption) | exact tb_l2 (by assumption) | exact lk2 (sb_li (by assumption)) _ | exact fb_l0 (sb_f (by assumption)) | exact fb_l1 (sb_f (by assumption))) ?_
              refine rw_iload_n F dc_X8_sheet_79 rfl ?_
              obtain ⟨hs16, hp⟩ := hp
              refine rw_aaSheet F dc_X8_sheet_80 hs16 (fun hk17 => ?_)
              refine rw_iload_n F dc_X8_sheet_81 rfl ?_
              refine rw_iload_n F dc_X8_sheet_82 rfl ?_
              obtain ⟨hs18, hp⟩ := hp
              refine rw_cVv F [_, _] dc_X8_sheet_83 mv_X5_renew ml_RX8_289 (by decide) (rc_5 (by first | rfl | assumption | decide | exact r73_k (by assumption) | exact fb_k (by assumption) | exact sb_k (by assumption) | exact tb_k (by assumption) | exact sb_li (by assumption) | exact sb_s (by assumption) | exact tb_n (by assumption) | exact fb_k (sb_f (by assumption)))) rfl rfl (Nat.le_of_ble_eq_true rfl) (cr_X5_renew hs18) ?_
              refine rw_aload_n F dc_X8_sheet_86 rfl ?_
              refine rw_getR F dc_X8_sheet_87 fl_RX8_32 (by first | rfl | assumption | decide | exact r73_k (by assumption) | exact fb_k (by assumption) | exact sb_k (by assumption) | exact tb_k (by assumption) | exact sb_li (by assumption) | exact sb_s (by assumption) | exact tb_n (by assumption) | exact fb_k (sb_f (by assumption))) (by first | rfl | assumption | exact lk6 (by assumption) _ | exact lk2 (by assumption) _ | exact fb_l0 (by assumption) | exact fb_l1 (by assumption) | exact sb_l0 (by assumption) | exact sb_l1 (by assumption) | exact sb_l2 (by assumption) | exact sb_l3 (by assumption) | exact tb_l0 (by assumption) | exact tb_l1 (by assumption) | exact tb_l2 (by assumption) | exact lk2 (sb_li (by assumption)) _ | exact fb_l0 (sb_f (by assumption)) | exact fb_l1 (sb_f (by assumption))) ?_
              refine rw_iload_n F dc_X8_sheet_90 rfl ?_
              obtain ⟨hs19, hp⟩ := hp
              refine rw_aaSheet F dc_X8_sheet_91 hs19 (fun hk20 => ?_)
              refine rw_getI F dc_X8_sheet_92 fl_RX8_292 (by first | rfl | assumption | decide | exact r73_k (by assumption) | exact fb_k (by assumption) | exact sb_k (by assumption) | exact tb_k (by assumption) | exact sb_li (by assumption) | exact sb_s (by assumption) | exact tb_n (by assumption) | exact fb_k (sb_f (by assumption))) (by first | rfl | assumption | exact lk6 (by assumption) _ | exact lk2 (by assumption) _ | exact fb_l0 (by assumption) | exact fb_l1 (by assumption) | exact sb_l0 (by assumption) | exact sb_l1 (by assumption) | exact sb_l2 (by assumption) | exact sb_l3 (by assumption) | exact tb_l0 (by assumption) | exact tb_l1 (by assumption) | exact tb_l2 (by assumption) | exact lk2 (sb_li (by assumption)) _ | exact fb_l0 (sb_f (by assumption)) | exact fb_l1 (sb_f (by assumption))) ?_
              refine rw_iret F dc_X8_sheet_95 rfl rfl ?_
              exact ⟨by first | (simp only [f_X8_sheet, g_X8_sheet, if_neg c1, if_pos c11, if_neg c12, if_pos c14, if_pos c15]; done) | rfl | (simp only [f_X8_sheet, g_X8_sheet, if_neg c1, if_pos c11, if_neg c12, if_pos c14, if_pos c15]; rfl), by first | (simp only [f_X8_sheet, g_X8_sheet, if_neg c1, if_pos c11, if_neg c12, if_pos c14, if_pos c15]; done) | rfl | (simp only [f_X8_sheet, g_X8_sheet, if_neg c1, if_pos c11, if_neg c12, if_pos c14, if_pos c15]; rfl)⟩
            · rw [if_neg c15] at hp
              refine rw_aload_n F dc_X8_sheet_68 rfl ?_
              refine rw_ldc F dc_X8_sheet_69 kc_RX8_82 ?_
              refine rw_cVi F [_] dc_X8_sheet_71 mv_X8_found ml_RX8_83 (by decide) (rc_8 (by first | rfl | assumption | decide | exact r73_k (by assumption) | exact fb_k (by assumption) | exact sb_k (by assumption) | exact tb_k (by assumption) | exact sb_li (by assumption) | exact sb_s (by assumption) | exact tb_n (by assumption) | exact fb_k (sb_f (by assumption)))) rfl rfl (Nat.le_of_ble_eq_true rfl) cn_X8_found ?_
              refine rw_iret F dc_X8_sheet_74 rfl rfl ?_
              exact ⟨by first | (simp only [f_X8_sheet, g_X8_sheet, if_neg c1, if_pos c11, if_neg c12, if_pos c14, if_neg c15]; done) | rfl | (simp only [f_X8_sheet, g_X8_sheet, if_neg c1, if_pos c11, if_neg c12, if_pos c14, if_neg c15]; rfl), by first | (simp only [f_X8_sheet, g_X8_sheet, if_neg c1, if_pos c11, if_neg c12, if_pos c14, if_neg c15]; done) | rfl | (simp only [f_X8_sheet, g_X8_sheet, if_neg c1, if_pos c11, if_neg c12, if_pos c14, if_neg c15]; rfl)⟩
          · rw [if_neg c14] at hp
            refine rw_aload_n F dc_X8_sheet_54 rfl ?_
            refine rw_ldcw F dc_X8_sheet_55 kc_RX8_288 ?_
            refine rw_cVi F [_] dc_X8_sheet_58 mv_X8_found ml_RX8_83 (by decide) (rc_8 (by first | rfl | assumption | decide | exact r73_k (by assumption) | exact fb_k (by assumption) | exact sb_k (by assumption) | exact tb_k (by assumption) | exact sb_li (by assumption) | exact sb_s (by assumption) | exact tb_n (by assumption) | exact fb_k (sb_f (by assumption)))) rfl rfl (Nat.le_of_ble_eq_true rfl) cn_X8_found ?_
            refine rw_iret F dc_X8_sheet_61 rfl rfl ?_
            exact ⟨by first | (simp only [f_X8_sheet, g_X8_sheet, if_neg c1, if_pos c11, if_neg c12, if_neg c14]; done) | rfl | (simp only [f_X8_sheet, g_X8_sheet, if_neg c1, if_pos c11, if_neg c12, if_neg c14]; rfl), by first | (simp only [f_X8_sheet, g_X8_sheet, if_neg c1, if_pos c11, if_neg c12, if_neg c14]; done) | rfl | (simp only [f_X8_sheet, g_X8_sheet, if_neg c1, if_pos c11, if_neg c12, if_neg c14]; rfl)⟩
        · exact absurd c13 (by decide)
    · rw [if_neg c11] at hp
      refine rw_iload_n F dc_X8_sheet_10 rfl ?_
      refine rw_bipush (v := 16) F dc_X8_sheet_11 rfl ?_
      refine rw_icmp_eq (tgt := 22) F dc_X8_sheet_13 rfl (fun c21 => ?_) (fun c21 => ?_)
      · rw [if_pos c21] at hp
        refine rw_iconst (v := 1) F dc_X8_sheet_22 rfl ?_
        refine rw_goto (tgt := 27) F dc_X8_sheet_23 rfl ?_
        refine rw_istore F dc_X8_sheet_27 (by decide) rfl ?_
        refine rw_iload_n F dc_X8_sheet_29 rfl ?_
        refine rw_iconst (v := 0) F dc_X8_sheet_30 rfl ?_
        refine rw_iconst (v := 3) F dc_X8_sheet_31 rfl ?_
        refine rw_cSi F [_, _, _] dc_X8_sheet_32 ms_X8_within ml_RX8_97 (by decide)  rfl rfl (Nat.le_of_ble_eq_true rfl) ct_X8_within ?_
        refine rw_if_eq (tgt := 43) F dc_X8_sheet_35 rfl (fun c22 => ?_) (fun c22 => ?_)
        · rw [if_pos c22] at hp
          refine rw_aload_n F dc_X8_sheet_43 rfl ?_
          refine rw_ldc F dc_X8_sheet_44 kc_RX8_82 ?_
          refine rw_cVi F [_] dc_X8_sheet_46 mv_X8_found ml_RX8_83 (by decide) (rc_8 (by first | rfl | assumption | decide | exact r73_k (by assumption) | exact fb_k (by assumption) | exact sb_k (by assumption) | exact tb_k (by assumption) | exact sb_li (by assumption) | exact sb_s (by assumption) | exact tb_n (by assumption) | exact fb_k (sb_f (by assumption)))) rfl rfl (Nat.le_of_ble_eq_true rfl) cn_X8_found ?_
          refine rw_iret F dc_X8_sheet_49 rfl rfl ?_
          exact ⟨by first | (simp only [f_X8_sheet, g_X8_sheet, if_neg c1, if_neg c11, if_pos c21, if_pos c22]; done) | rfl | (simp only [f_X8_sheet, g_X8_sheet, if_neg c1, if_neg c11, if_pos c21, if_pos c22]; rfl), by first | (simp only [f_X8_sheet, g_X8_sheet, if_neg c1, if_neg c11, if_pos c21, if_pos c22]; done) | rfl | (simp only [f_X8_sheet, g_X8_sheet, if_neg c1, if_neg c11, if_pos c21, if_pos c22]; rfl)⟩
        · rw [if_neg c22] at hp
          refine rw_iload F dc_X8_sheet_38 rfl ?_
          refine rw_if_ne (tgt := 50) F dc_X8_sheet_40 rfl (fun c23 => ?_) (fun c23 => ?_)
          · refine rw_iload_n F dc_X8_sheet_50 rfl ?_
            refine rw_if_ge (tgt := 62) F dc_X8_sheet_51 rfl (fun c24 => ?_) (fun c24 => ?_)
            · rw [if_pos c24] at hp
              refine rw_iload_n F dc_X8_sheet_62 rfl ?_
              refine rw_bipush (v := 40) F dc_X8_sheet_63 rfl ?_
              refine rw_icmp_le (tgt := 75) F dc_X8_sheet_65 rfl (fun c25 => ?_) (fun c25 => ?_)
              · rw [if_pos c25] at hp
                refine rw_aload_n F dc_X8_sheet_75 rfl ?_
                refine rw_getR F dc_X8_sheet_76 fl_RX8_32 (by first | rfl | assumption | decide | exact r73_k (by assumption) | exact fb_k (by assumption) | exact sb_k (by assumption) | exact tb_k (by assumption) | exact sb_li (by assumption) | exact sb_s (by assumption) | exact tb_n (by assumption) | exact fb_k (sb_f (by assumption))) (by first | rfl | assumption | exact lk6 (by assumption) _ | exact lk2 (by assumption) _ | exact fb_l0 (by assumption) | exact fb_l1 (by assumption) | exact sb_l0 (by assumption) | exact sb_l1 (by assumption) | exact sb_l2 (by assumption) | exact sb_l3 (by assumption) | exact tb_l0 (by assumption) | exact tb_l1 (by assumption) | exact tb_l2 (by assumption) | exact lk2 (sb_li (by assumption)) _ | exact fb_l0 (sb_f (by assumption)) | exact fb_l1 (sb_f (by assumption))) ?_
                refine rw_iload_n F dc_X8_sheet_79 rfl ?_
                obtain ⟨hs26, hp⟩ := hp
                refine rw_aaSheet F dc_X8_sheet_80 hs26 (fun hk27 => ?_)
                refine rw_iload_n F dc_X8_sheet_81 rfl ?_
                refine rw_iload_n F dc_X8_sheet_82 rfl ?_
                obtain ⟨hs28, hp⟩ := hp
                refine rw_cVv F [_, _] dc_X8_sheet_83 mv_X5_renew ml_RX8_289 (by decide) (rc_5 (by first | rfl | assumption | decide | exact r73_k (by assumption) | exact fb_k (by assumption) | exact sb_k (by assumption) | exact tb_k (by assumption) | exact sb_li (by assumption) | exact sb_s (by assumption) | exact tb_n (by assumption) | exact fb_k (sb_f (by assumption)))) rfl rfl (Nat.le_of_ble_eq_true rfl) (cr_X5_renew hs28) ?_
                refine rw_aload_n F dc_X8_sheet_86 rfl ?_
                refine rw_getR F dc_X8_sheet_87 fl_RX8_32 (by first | rfl | assumption | decide | exact r73_k (by assumption) | exact fb_k (by assumption) | exact sb_k (by assumption) | exact tb_k (by assumption) | exact sb_li (by assumption) | exact sb_s (by assumption) | exact tb_n (by assumption) | exact fb_k (sb_f (by assumption))) (by first | rfl | assumption | exact lk6 (by assumption) _ | exact lk2 (by assumption) _ | exact fb_l0 (by assumption) | exact fb_l1 (by assumption) | exact sb_l0 (by assumption) | exact sb_l1 (by assumption) | exact sb_l2 (by assumption) | exact sb_l3 (by assumption) | exact tb_l0 (by assumption) | exact tb_l1 (by assumption) | exact tb_l2 (by assumption) | exact lk2 (sb_li (by assumption)) _ | exact fb_l0 (sb_f (by assumption)) | exact fb_l1 (sb_f (by assumption))) ?_
                refine rw_iload_n F dc_X8_sheet_90 rfl ?_
                obtain ⟨hs29, hp⟩ := hp
                refine rw_aaSheet F dc_X8_sheet_91 hs29 (fun hk30 => ?_)
                refine rw_getI F dc_X8_sheet_92 fl_RX8_292 (by first | rfl | assumption | decide | exact r73_k (by assumption) | exact fb_k (by assumption) | exact sb_k (by assumption) | exact tb_k (by assumption) | exact sb_li (by assumption) | exact sb_s (by assumption) | exact tb_n (by assumption) | exact fb_k (sb_f (by assumption))) (by first | rfl | assumption | exact lk6 (by assumption) _ | exact lk2 (by assumption) _ | exact fb_l0 (by assumption) | exact fb_l1 (by assumption) | exact sb_l0 (by assumption) | exact sb_l1 (by assumption) | exact sb_l2 (by assumption) | exact sb_l3 (by assumption) | exact tb_l0 (by assumption) | exact tb_l1 (by assumption) | exact tb_l2 (by assumption) | exact lk2 (sb_li (by assumption)) _ | exact fb_l0 (sb_f (by assumption)) | exact fb_l1 (sb_f (by assumption))) ?_
                refine rw_iret F dc_X8_sheet_95 rfl rfl ?_
                exact ⟨by first | (simp only [f_X8_sheet, g_X8_sheet, if_neg c1, if_neg c11, if_pos c21, if_neg c22, if_pos c24, if_pos c25]; done) | rfl | (simp only [f_X8_sheet, g_X8_sheet, if_neg c1, if_neg c11, if_pos c21, if_neg c22, if_pos c24, if_pos c25]; rfl), by first | (simp only [f_X8_sheet, g_X8_sheet, if_neg c1, if_neg c11, if_pos c21, if_neg c22, if_pos c24, if_pos c25]; done) | rfl | (simp only [f_X8_sheet, g_X8_sheet, if_neg c1, if_neg c11, if_pos c21, if_neg c22, if_pos c24, if_pos c25]; rfl)⟩
              · rw [if_neg c25] at hp
                refine rw_aload_n F dc_X8_sheet_68 rfl ?_
                refine rw_ldc F dc_X8_sheet_69 kc_RX8_82 ?_
                refine rw_cVi F [_] dc_X8_sheet_71 mv_X8_found ml_RX8_83 (by decide) (rc_8 (by first | rfl | assumption | decide | exact r73_k (by assumption) | exact fb_k (by assumption) | exact sb_k (by assumption) | exact tb_k (by assumption) | exact sb_li (by assumption) | exact sb_s (by assumption) | exact tb_n (by assumption) | exact fb_k (sb_f (by assumption)))) rfl rfl (Nat.le_of_ble_eq_true rfl) cn_X8_found ?_
                refine rw_iret F dc_X8_sheet_74 rfl rfl ?_
                exact ⟨by first | (simp only [f_X8_sheet, g_X8_sheet, if_neg c1, if_neg c11, if_pos c21, if_neg c22, if_pos c24, if_neg c25]; done) | rfl | (simp only [f_X8_sheet, g_X8_sheet, if_neg c1, if_neg c11, if_pos c21, if_neg c22, if_pos c24, if_neg c25]; rfl), by first | (simp only [f_X8_sheet, g_X8_sheet, if_neg c1, if_neg c11, if_pos c21, if_neg c22, if_pos c24, if_neg c25]; done) | rfl | (simp only [f_X8_sheet, g_X8_sheet, if_neg c1, if_neg c11, if_pos c21, if_neg c22, if_pos c24, if_neg c25]; rfl)⟩
            · rw [if_neg c24] at hp
              refine rw_aload_n F dc_X8_sheet_54 rfl ?_
              refine rw_ldcw F dc_X8_sheet_55 kc_RX8_288 ?_
              refine rw_cVi F [_] dc_X8_sheet_58 mv_X8_found ml_RX8_83 (by decide) (rc_8 (by first | rfl | assumption | decide | exact r73_k (by assumption) | exact fb_k (by assumption) | exact sb_k (by assumption) | exact tb_k (by assumption) | exact sb_li (by assumption) | exact sb_s (by assumption) | exact tb_n (by assumption) | exact fb_k (sb_f (by assumption)))) rfl rfl (Nat.le_of_ble_eq_true rfl) cn_X8_found ?_
              refine rw_iret F dc_X8_sheet_61 rfl rfl ?_
              exact ⟨by first | (simp only [f_X8_sheet, g_X8_sheet, if_neg c1, if_neg c11, if_pos c21, if_neg c22, if_neg c24]; done) | rfl | (simp only [f_X8_sheet, g_X8_sheet, if_neg c1, if_neg c11, if_pos c21, if_neg c22, if_neg c24]; rfl), by first | (simp only [f_X8_sheet, g_X8_sheet, if_neg c1, if_neg c11, if_pos c21, if_neg c22, if_neg c24]; done) | rfl | (simp only [f_X8_sheet, g_X8_sheet, if_neg c1, if_neg c11, if_pos c21, if_neg c22, if_neg c24]; rfl)⟩
          · exact absurd c23 (by decide)
      · rw [if_neg c21] at hp
        refine rw_iload_n F dc_X8_sheet_16 rfl ?_
        refine rw_bipush (v := 32) F dc_X8_sheet_17 rfl ?_
        refine rw_icmp_ne (tgt := 26) F dc_X8_sheet_19 rfl (fun c31 => ?_) (fun c31 => ?_)
        · rw [if_neg c31] at hp
          refine rw_iconst (v := 0) F dc_X8_sheet_26 rfl ?_
          refine rw_istore F dc_X8_sheet_27 (by decide) rfl ?_
          refine rw_iload_n F dc_X8_sheet_29 rfl ?_
          refine rw_iconst (v := 0) F dc_X8_sheet_30 rfl ?_
          refine rw_iconst (v := 3) F dc_X8_sheet_31 rfl ?_
          refine rw_cSi F [_, _, _] dc_X8_sheet_32 ms_X8_within ml_RX8_97 (by decide)  rfl rfl (Nat.le_of_ble_eq_true rfl) ct_X8_within ?_
          refine rw_if_eq (tgt := 43) F dc_X8_sheet_35 rfl (fun c32 => ?_) (fun c32 => ?_)
          · refine rw_aload_n F dc_X8_sheet_43 rfl ?_
            refine rw_ldc F dc_X8_sheet_44 kc_RX8_82 ?_
            refine rw_cVi F [_] dc_X8_sheet_46 mv_X8_found ml_RX8_83 (by decide) (rc_8 (by first | rfl | assumption | decide | exact r73_k (by assumption) | exact fb_k (by assumption) | exact sb_k (by assumption) | exact tb_k (by assumption) | exact sb_li (by assumption) | exact sb_s (by assumption) | exact tb_n (by assumption) | exact fb_k (sb_f (by assumption)))) rfl rfl (Nat.le_of_ble_eq_true rfl) cn_X8_found ?_
            refine rw_iret F dc_X8_sheet_49 rfl rfl ?_
            exact ⟨by first | (simp only [f_X8_sheet, g_X8_sheet, if_neg c1, if_neg c11, if_neg c21, if_neg c31, if_pos c32]; done) | rfl | (simp only [f_X8_sheet, g_X8_sheet, if_neg c1, if_neg c11, if_neg c21, if_neg c31, if_pos c32]; rfl), by first | (simp only [f_X8_sheet, g_X8_sheet, if_neg c1, if_neg c11, if_neg c21, if_neg c31, if_pos c32]; done) | rfl | (simp only [f_X8_sheet, g_X8_sheet, if_neg c1, if_neg c11, if_neg c21, if_neg c31, if_pos c32]; rfl)⟩
          · refine rw_iload F dc_X8_sheet_38 rfl ?_
            refine rw_if_ne (tgt := 50) F dc_X8_sheet_40 rfl (fun c33 => ?_) (fun c33 => ?_)
            · exact absurd c33 (by decide)
            · refine rw_aload_n F dc_X8_sheet_43 rfl ?_
              refine rw_ldc F dc_X8_sheet_44 kc_RX8_82 ?_
              refine rw_cVi F [_] dc_X8_sheet_46 mv_X8_found ml_RX8_83 (by decide) (rc_8 (by first | rfl | assumption | decide | exact r73_k (by assumption) | exact fb_k (by assumption) | exact sb_k (by assumption) | exact tb_k (by assumption) | exact sb_li (by assumption) | exact sb_s (by assumption) | exact tb_n (by assumption) | exact fb_k (sb_f (by assumption)))) rfl rfl (Nat.le_of_ble_eq_true rfl) cn_X8_found ?_
              refine rw_iret F dc_X8_sheet_49 rfl rfl ?_
              exact ⟨by first | (simp only [f_X8_sheet, g_X8_sheet, if_neg c1, if_neg c11, if_neg c21, if_neg c31, if_neg c32]; done) | rfl | (simp only [f_X8_sheet, g_X8_sheet, if_neg c1, if_neg c11, if_neg c21, if_neg c31, if_neg c32]; rfl), by first | (simp only [f_X8_sheet, g_X8_sheet, if_neg c1, if_neg c11, if_neg c21, if_neg c31, if_neg c32]; done) | rfl | (simp only [f_X8_sheet, g_X8_sheet, if_neg c1, if_neg c11, if_neg c21, if_neg c31, if_neg c32]; rfl)⟩
        · rw [if_pos c31] at hp
          refine rw_iconst (v := 1) F dc_X8_sheet_22 rfl ?_
          refine rw_goto (tgt := 27) F dc_X8_sheet_23 rfl ?_
          refine rw_istore F dc_X8_sheet_27 (by decide) rfl ?_
          refine rw_iload_n F dc_X8_sheet_29 rfl ?_
          refine rw_iconst (v := 0) F dc_X8_sheet_30 rfl ?_
          refine rw_iconst (v := 3) F dc_X8_sheet_31 rfl ?_
          refine rw_cSi F [_, _, _] dc_X8_sheet_32 ms_X8_within ml_RX8_97 (by decide)  rfl rfl (Nat.le_of_ble_eq_true rfl) ct_X8_within ?_
          refine rw_if_eq (tgt := 43) F dc_X8_sheet_35 rfl (fun c34 => ?_) (fun c34 => ?_)
          · rw [if_pos c34] at hp
            refine rw_aload_n F dc_X8_sheet_43 rfl ?_
            refine rw_ldc F dc_X8_sheet_44 kc_RX8_82 ?_
            refine rw_cVi F [_] dc_X8_sheet_46 mv_X8_found ml_RX8_83 (by decide) (rc_8 (by first | rfl | assumption | decide | exact r73_k (by assumption) | exact fb_k (by assumption) | exact sb_k (by assumption) | exact tb_k (by assumption) | exact sb_li (by assumption) | exact sb_s (by assumption) | exact tb_n (by assumption) | exact fb_k (sb_f (by assumption)))) rfl rfl (Nat.le_of_ble_eq_true rfl) cn_X8_found ?_
            refine rw_iret F dc_X8_sheet_49 rfl rfl ?_
            exact ⟨by first | (simp only [f_X8_sheet, g_X8_sheet, if_neg c1, if_neg c11, if_neg c21, if_pos c31, if_pos c34]; done) | rfl | (simp only [f_X8_sheet, g_X8_sheet, if_neg c1, if_neg c11, if_neg c21, if_pos c31, if_pos c34]; rfl), by first | (simp only [f_X8_sheet, g_X8_sheet, if_neg c1, if_neg c11, if_neg c21, if_pos c31, if_pos c34]; done) | rfl | (simp only [f_X8_sheet, g_X8_sheet, if_neg c1, if_neg c11, if_neg c21, if_pos c31, if_pos c34]; rfl)⟩
          · rw [if_neg c34] at hp
            refine rw_iload F dc_X8_sheet_38 rfl ?_
            refine rw_if_ne (tgt := 50) F dc_X8_sheet_40 rfl (fun c35 => ?_) (fun c35 => ?_)
            · refine rw_iload_n F dc_X8_sheet_50 rfl ?_
              refine rw_if_ge (tgt := 62) F dc_X8_sheet_51 rfl (fun c36 => ?_) (fun c36 => ?_)
              · rw [if_pos c36] at hp
                refine rw_iload_n F dc_X8_sheet_62 rfl ?_
                refine rw_bipush (v := 40) F dc_X8_sheet_63 rfl ?_
                refine rw_icmp_le (tgt := 75) F dc_X8_sheet_65 rfl (fun c37 => ?_) (fun c37 => ?_)
                · rw [if_pos c37] at hp
                  refine rw_aload_n F dc_X8_sheet_75 rfl ?_
                  refine rw_getR F dc_X8_sheet_76 fl_RX8_32 (by first | rfl | assumption | decide | exact r73_k (by assumption) | exact fb_k (by assumption) | exact sb_k (by assumption) | exact tb_k (by assumption) | exact sb_li (by assumption) | exact sb_s (by assumption) | exact tb_n (by assumption) | exact fb_k (sb_f (by assumption))) (by first | rfl | assumption | exact lk6 (by assumption) _ | exact lk2 (by assumption) _ | exact fb_l0 (by assumption) | exact fb_l1 (by assumption) | exact sb_l0 (by assumption) | exact sb_l1 (by assumption) | exact sb_l2 (by assumption) | exact sb_l3 (by assumption) | exact tb_l0 (by assumption) | exact tb_l1 (by assumption) | exact tb_l2 (by assumption) | exact lk2 (sb_li (by assumption)) _ | exact fb_l0 (sb_f (by assumption)) | exact fb_l1 (sb_f (by assumption))) ?_
                  refine rw_iload_n F dc_X8_sheet_79 rfl ?_
                  obtain ⟨hs38, hp⟩ := hp
                  refine rw_aaSheet F dc_X8_sheet_80 hs38 (fun hk39 => ?_)
                  refine rw_iload_n F dc_X8_sheet_81 rfl ?_
                  refine rw_iload_n F dc_X8_sheet_82 rfl ?_
                  obtain ⟨hs40, hp⟩ := hp
                  refine rw_cVv F [_, _] dc_X8_sheet_83 mv_X5_renew ml_RX8_289 (by decide) (rc_5 (by first | rfl | assumption | decide | exact r73_k (by assumption) | exact fb_k (by assumption) | exact sb_k (by assumption) | exact tb_k (by assumption) | exact sb_li (by assumption) | exact sb_s (by assumption) | exact tb_n (by assumption) | exact fb_k (sb_f (by assumption)))) rfl rfl (Nat.le_of_ble_eq_true rfl) (cr_X5_renew hs40) ?_
                  refine rw_aload_n F dc_X8_sheet_86 rfl ?_
                  refine rw_getR F dc_X8_sheet_87 fl_RX8_32 (by first | rfl | assumption | decide | exact r73_k (by assumption) | exact fb_k (by assumption) | exact sb_k (by assumption) | exact tb_k (by assumption) | exact sb_li (by assumption) | exact sb_s (by assumption) | exact tb_n (by assumption) | exact fb_k (sb_f (by assumption))) (by first | rfl | assumption | exact lk6 (by assumption) _ | exact lk2 (by assumption) _ | exact fb_l0 (by assumption) | exact fb_l1 (by assumption) | exact sb_l0 (by assumption) | exact sb_l1 (by assumption) | exact sb_l2 (by assumption) | exact sb_l3 (by assumption) | exact tb_l0 (by assumption) | exact tb_l1 (by assumption) | exact tb_l2 (by assumption) | exact lk2 (sb_li (by assumption)) _ | exact fb_l0 (sb_f (by assumption)) | exact fb_l1 (sb_f (by assumption))) ?_
                  refine rw_iload_n F dc_X8_sheet_90 rfl ?_
                  obtain ⟨hs41, hp⟩ := hp
                  refine rw_aaSheet F dc_X8_sheet_91 hs41 (fun hk42 => ?_)
                  refine rw_getI F dc_X8_sheet_92 fl_RX8_292 (by first | rfl | assumption | decide | exact r73_k (by assumption) | exact fb_k (by assumption) | exact sb_k (by assumption) | exact tb_k (by assumption) | exact sb_li (by assumption) | exact sb_s (by assumption) | exact tb_n (by assumption) | exact fb_k (sb_f (by assumption))) (by first | rfl | assumption | exact lk6 (by assumption) _ | exact lk2 (by assumption) _ | exact fb_l0 (by assumption) | exact fb_l1 (by assumption) | exact sb_l0 (by assumption) | exact sb_l1 (by assumption) | exact sb_l2 (by assumption) | exact sb_l3 (by assumption) | exact tb_l0 (by assumption) | exact tb_l1 (by assumption) | exact tb_l2 (by assumption) | exact lk2 (sb_li (by assumption)) _ | exact fb_l0 (sb_f (by assumption)) | exact fb_l1 (sb_f (by assumption))) ?_
                  refine rw_iret F dc_X8_sheet_95 rfl rfl ?_
                  exact ⟨by first | (simp only [f_X8_sheet, g_X8_sheet, if_neg c1, if_neg c11, if_neg c21, if_pos c31, if_neg c34, if_pos c36, if_pos c37]; done) | rfl | (simp only [f_X8_sheet, g_X8_sheet, if_neg c1, if_neg c11, if_neg c21, if_pos c31, if_neg c34, if_pos c36, if_pos c37]; rfl), by first | (simp only [f_X8_sheet, g_X8_sheet, if_neg c1, if_neg c11, if_neg c21, if_pos c31, if_neg c34, if_pos c36, if_pos c37]; done) | rfl | (simp only [f_X8_sheet, g_X8_sheet, if_neg c1, if_neg c11, if_neg c21, if_pos c31, if_neg c34, if_pos c36, if_pos c37]; rfl)⟩
                · rw [if_neg c37] at hp
                  refine rw_aload_n F dc_X8_sheet_68 rfl ?_
                  refine rw_ldc F dc_X8_sheet_69 kc_RX8_82 ?_
                  refine rw_cVi F [_] dc_X8_sheet_71 mv_X8_found ml_RX8_83 (by decide) (rc_8 (by first | rfl | assumption | decide | exact r73_k (by assumption) | exact fb_k (by assumption) | exact sb_k (by assumption) | exact tb_k (by assumption) | exact sb_li (by assumption) | exact sb_s (by assumption) | exact tb_n (by assumption) | exact fb_k (sb_f (by assumption)))) rfl rfl (Nat.le_of_ble_eq_true rfl) cn_X8_found ?_
                  refine rw_iret F dc_X8_sheet_74 rfl rfl ?_
                  exact ⟨by first | (simp only [f_X8_sheet, g_X8_sheet, if_neg c1, if_neg c11, if_neg c21, if_pos c31, if_neg c34, if_pos c36, if_neg c37]; done) | rfl | (simp only [f_X8_sheet, g_X8_sheet, if_neg c1, if_neg c11, if_neg c21, if_pos c31, if_neg c34, if_pos c36, if_neg c37]; rfl), by first | (simp only [f_X8_sheet, g_X8_sheet, if_neg c1, if_neg c11, if_neg c21, if_pos c31, if_neg c34, if_pos c36, if_neg c37]; done) | rfl | (simp only [f_X8_sheet, g_X8_sheet, if_neg c1, if_neg c11, if_neg c21, if_pos c31, if_neg c34, if_pos c36, if_neg c37]; rfl)⟩
              · rw [if_neg c36] at hp
                refine rw_aload_n F dc_X8_sheet_54 rfl ?_
                refine rw_ldcw F dc_X8_sheet_55 kc_RX8_288 ?_
                refine rw_cVi F [_] dc_X8_sheet_58 mv_X8_found ml_RX8_83 (by decide) (rc_8 (by first | rfl | assumption | decide | exact r73_k (by assumption) | exact fb_k (by assumption) | exact sb_k (by assumption) | exact tb_k (by assumption) | exact sb_li (by assumption) | exact sb_s (by assumption) | exact tb_n (by assumption) | exact fb_k (sb_f (by assumption)))) rfl rfl (Nat.le_of_ble_eq_true rfl) cn_X8_found ?_
                refine rw_iret F dc_X8_sheet_61 rfl rfl ?_
                exact ⟨by first | (simp only [f_X8_sheet, g_X8_sheet, if_neg c1, if_neg c11, if_neg c21, if_pos c31, if_neg c34, if_neg c36]; done) | rfl | (simp only [f_X8_sheet, g_X8_sheet, if_neg c1, if_neg c11, if_neg c21, if_pos c31, if_neg c34, if_neg c36]; rfl), by first | (simp only [f_X8_sheet, g_X8_sheet, if_neg c1, if_neg c11, if_neg c21, if_pos c31, if_neg c34, if_neg c36]; done) | rfl | (simp only [f_X8_sheet, g_X8_sheet, if_neg c1, if_neg c11, if_neg c21, if_pos c31, if_neg c34, if_neg c36]; rfl)⟩
            · exact absurd c35 (by decide)
def f_X8_write  (x1 : Int32) (x2 : Int32) (x3 : Int32) (τ : tw_T) : Int32 := if (f_X8_troubleWith x1 τ) = (0 : Int32) then (if (f_X8_within x2 0 ((τ (182 + 2 * x1.toNatClampNeg) 2) - 1) τ) = (0 : Int32) then ((-1000001)) else 1) else (f_X8_troubleWith x1 τ)
def g_X8_write  (x1 : Int32) (x2 : Int32) (x3 : Int32) (τ : tw_T) : tw_T := if (f_X8_troubleWith x1 τ) = (0 : Int32) then (if (f_X8_within x2 0 ((τ (182 + 2 * x1.toNatClampNeg) 2) - 1) τ) = (0 : Int32) then (g_X8_found ((-1000001)) τ) else (g_X5_put (182 + 2 * x1.toNatClampNeg) x2 x3 τ)) else (g_X8_found (f_X8_troubleWith x1 τ) τ)
def p_X8_write  (x1 : Int32) (x2 : Int32) (x3 : Int32) (τ : tw_T) : Prop := p_X8_troubleWith x1 τ ∧ (if (f_X8_troubleWith x1 τ) = (0 : Int32) then (vp_in x1 4 ∧ (if (f_X8_within x2 0 ((τ (182 + 2 * x1.toNatClampNeg) 2) - 1) τ) = (0 : Int32) then True else (vp_in x1 4 ∧ (p_X5_put (182 + 2 * x1.toNatClampNeg) x2 x3 τ ∧ True)))) else True)
theorem ct_X8_write {E : tw_E}   {x1 : Int32} {x2 : Int32} {x3 : Int32} {τ : tw_T} (hp : p_X8_write x1 x2 x3 τ)  : tw_Ci E 3 mX8_write [.ref 0, .int x1, .int x2, .int x3] τ (f_X8_write x1 x2 x3 τ) (g_X8_write x1 x2 x3 τ) := by
  unfold p_X8_write at hp
  refine ct_of (by decide) (by simp [Value.category]) (Nat.le_of_ble_eq_true rfl) (fun K hE F => ?_)
  subst hE
  refine rw_aload_n F dc_X8_write_0 rfl ?_
  refine rw_iload_n F dc_X8_write_1 rfl ?_
  obtain ⟨hs1, hp⟩ := hp
  refine rw_cVi F [_] dc_X8_write_2 mv_X8_troubleWith ml_RX8_228 (by decide) (rc_8 (by first | rfl | assumption | decide | exact r73_k (by assumption) | exact fb_k (by assumption) | exact sb_k (by assumption) | exact tb_k (by assumption) | exact sb_li (by assumption) | exact sb_s (by assumption) | exact tb_n (by assumption) | exact fb_k (sb_f (by assumption)))) rfl rfl (Nat.le_of_ble_eq_true rfl) (ct_X8_troubleWith hs1) ?_
  refine rw_istore F dc_X8_write_5 (by decide) rfl ?_
  refine rw_iload F dc_X8_write_7 rfl ?_
  refine rw_if_eq (tgt := 19) F dc_X8_write_9 rfl (fun c2 => ?_) (fun c2 => ?_)
  · rw [if_pos c2] at hp
    refine rw_iload_n F dc_X8_write_19 rfl ?_
    refine rw_iconst (v := 0) F dc_X8_write_20 rfl ?_
    refine rw_aload_n F dc_X8_write_21 rfl ?_
    refine rw_getR F dc_X8_write_22 fl_RX8_32 (by first | rfl | assumption | decide | exact r73_k (by assumption) | exact fb_k (by assumption) | exact sb_k (by assumption) | exact tb_k (by assumption) | exact sb_li (by assumption) | exact sb_s (by assumption) | exact tb_n (by assumption) | exact fb_k (sb_f (by assumption))) (by first | rfl | assumption | exact lk6 (by assumption) _ | exact lk2 (by assumption) _ | exact fb_l0 (by assumption) | exact fb_l1 (by assumption) | exact sb_l0 (by assumption) | exact sb_l1 (by assumption) | exact sb_l2 (by assumption) | exact sb_l3 (by assumption) | exact tb_l0 (by assumption) | exact tb_l1 (by assumption) | exact tb_l2 (by assumption) | exact lk2 (sb_li (by assumption)) _ | exact fb_l0 (sb_f (by assumption)) | exact fb_l1 (sb_f (by assumption))) ?_
    refine rw_iload_n F dc_X8_write_25 rfl ?_
    obtain ⟨hs3, hp⟩ := hp
    refine rw_aaSheet F dc_X8_write_26 hs3 (fun hk4 => ?_)
    refine rw_getI F dc_X8_write_27 fl_RX8_292 (by first | rfl | assumption | decide | exact r73_k (by assumption) | exact fb_k (by assumption) | exact sb_k (by assumption) | exact tb_k (by assumption) | exact sb_li (by assumption) | exact sb_s (by assumption) | exact tb_n (by assumption) | exact fb_k (sb_f (by assumption))) (by first | rfl | assumption | exact lk6 (by assumption) _ | exact lk2 (by assumption) _ | exact fb_l0 (by assumption) | exact fb_l1 (by assumption) | exact sb_l0 (by assumption) | exact sb_l1 (by assumption) | exact sb_l2 (by assumption) | exact sb_l3 (by assumption) | exact tb_l0 (by assumption) | exact tb_l1 (by assumption) | exact tb_l2 (by assumption) | exact lk2 (sb_li (by assumption)) _ | exact fb_l0 (sb_f (by assumption)) | exact fb_l1 (sb_f (by assumption))) ?_
    refine rw_iconst (v := 1) F dc_X8_write_30 rfl ?_
    refine rw_isub F dc_X8_write_31 ?_
    refine rw_cSi F [_, _, _] dc_X8_write_32 ms_X8_within ml_RX8_97 (by decide)  rfl rfl (Nat.le_of_ble_eq_true rfl) ct_X8_within ?_
    refine rw_if_ne (tgt := 45) F dc_X8_write_35 rfl (fun c5 => ?_) (fun c5 => ?_)
    · rw [if_neg c5] at hp
      refine rw_aload_n F dc_X8_write_45 rfl ?_
      refine rw_getR F dc_X8_write_46 fl_RX8_32 (by first | rfl | assumption | decide | exact r73_k (by assumption) | exact fb_k (by assumption) | exact sb_k (by assumption) | exact tb_k (by assumption) | exact sb_li (by assumption) | exact sb_s (by assumption) | exact tb_n (by assumption) | exact fb_k (sb_f (by assumption))) (by first | rfl | assumption | exact lk6 (by assumption) _ | exact lk2 (by assumption) _ | exact fb_l0 (by assumption) | exact fb_l1 (by assumption) | exact sb_l0 (by assumption) | exact sb_l1 (by assumption) | exact sb_l2 (by assumption) | exact sb_l3 (by assumption) | exact tb_l0 (by assumption) | exact tb_l1 (by assumption) | exact tb_l2 (by assumption) | exact lk2 (sb_li (by assumption)) _ | exact fb_l0 (sb_f (by assumption)) | exact fb_l1 (sb_f (by assumption))) ?_
      refine rw_iload_n F dc_X8_write_49 rfl ?_
      obtain ⟨hs6, hp⟩ := hp
      refine rw_aaSheet F dc_X8_write_50 hs6 (fun hk7 => ?_)
      refine rw_iload_n F dc_X8_write_51 rfl ?_
      refine rw_iload_n F dc_X8_write_52 rfl ?_
      obtain ⟨hs8, hp⟩ := hp
      refine rw_cVv F [_, _] dc_X8_write_53 mv_X5_put ml_RX8_293 (by decide) (rc_5 (by first | rfl | assumption | decide | exact r73_k (by assumption) | exact fb_k (by assumption) | exact sb_k (by assumption) | exact tb_k (by assumption) | exact sb_li (by assumption) | exact sb_s (by assumption) | exact tb_n (by assumption) | exact fb_k (sb_f (by assumption)))) rfl rfl (Nat.le_of_ble_eq_true rfl) (ct_X5_put hs8) ?_
      refine rw_iconst (v := 1) F dc_X8_write_56 rfl ?_
      refine rw_iret F dc_X8_write_57 rfl rfl ?_
      exact ⟨by first | (simp only [f_X8_write, g_X8_write, if_pos c2, if_neg c5]; done) | rfl | (simp only [f_X8_write, g_X8_write, if_pos c2, if_neg c5]; rfl), by first | (simp only [f_X8_write, g_X8_write, if_pos c2, if_neg c5]; done) | rfl | (simp only [f_X8_write, g_X8_write, if_pos c2, if_neg c5]; rfl)⟩
    · rw [if_pos c5] at hp
      refine rw_aload_n F dc_X8_write_38 rfl ?_
      refine rw_ldc F dc_X8_write_39 kc_RX8_82 ?_
      refine rw_cVi F [_] dc_X8_write_41 mv_X8_found ml_RX8_83 (by decide) (rc_8 (by first | rfl | assumption | decide | exact r73_k (by assumption) | exact fb_k (by assumption) | exact sb_k (by assumption) | exact tb_k (by assumption) | exact sb_li (by assumption) | exact sb_s (by assumption) | exact tb_n (by assumption) | exact fb_k (sb_f (by assumption)))) rfl rfl (Nat.le_of_ble_eq_true rfl) cn_X8_found ?_
      refine rw_iret F dc_X8_write_44 rfl rfl ?_
      exact ⟨by first | (simp only [f_X8_write, g_X8_write, if_pos c2, if_pos c5]; done) | rfl | (simp only [f_X8_write, g_X8_write, if_pos c2, if_pos c5]; rfl), by first | (simp only [f_X8_write, g_X8_write, if_pos c2, if_pos c5]; done) | rfl | (simp only [f_X8_write, g_X8_write, if_pos c2, if_pos c5]; rfl)⟩
  · rw [if_neg c2] at hp
    refine rw_aload_n F dc_X8_write_12 rfl ?_
    refine rw_iload F dc_X8_write_13 rfl ?_
    refine rw_cVi F [_] dc_X8_write_15 mv_X8_found ml_RX8_83 (by decide) (rc_8 (by first | rfl | assumption | decide | exact r73_k (by assumption) | exact fb_k (by assumption) | exact sb_k (by assumption) | exact tb_k (by assumption) | exact sb_li (by assumption) | exact sb_s (by assumption) | exact tb_n (by assumption) | exact fb_k (sb_f (by assumption)))) rfl rfl (Nat.le_of_ble_eq_true rfl) cn_X8_found ?_
    refine rw_iret F dc_X8_write_18 rfl rfl ?_
    exact ⟨by first | (simp only [f_X8_write, g_X8_write, if_neg c2]; done) | rfl | (simp only [f_X8_write, g_X8_write, if_neg c2]; rfl), by first | (simp only [f_X8_write, g_X8_write, if_neg c2]; done) | rfl | (simp only [f_X8_write, g_X8_write, if_neg c2]; rfl)⟩
def f_X8_copy  (x1 : Int32) (x2 : Int32) (x3 : Int32) (x4 : Int32) (x5 : Int32) (τ : tw_T) : Int32 := if (f_X8_troubleWithEither x1 x3 τ) = (0 : Int32) then (if (τ (182 + 2 * x1.toNatClampNeg) 1) = (τ (182 + 2 * x3.toNatClampNeg) 1) then (if (f_X5_hasPart (182 + 2 * x1.toNatClampNeg) x2 x5 τ) = (0 : Int32) then ((-1000001)) else (if (f_X5_hasPart (182 + 2 * x3.toNatClampNeg) x4 x5 τ) = (0 : Int32) then ((-1000001)) else x5)) else ((-1000003))) else (f_X8_troubleWithEither x1 x3 τ)
def g_X8_copy  (x1 : Int32) (x2 : Int32) (x3 : Int32) (x4 : Int32) (x5 : Int32) (τ : tw_T) : tw_T := if (f_X8_troubleWithEither x1 x3 τ) = (0 : Int32) then (if (τ (182 + 2 * x1.toNatClampNeg) 1) = (τ (182 + 2 * x3.toNatClampNeg) 1) then (if (f_X5_hasPart (182 + 2 * x1.toNatClampNeg) x2 x5 τ) = (0 : Int32) then (g_X8_found ((-1000001)) τ) else (if (f_X5_hasPart (182 + 2 * x3.toNatClampNeg) x4 x5 τ) = (0 : Int32) then (g_X8_found ((-1000001)) τ) else (tw_sr τ (182 + 2 * x3.toNatClampNeg + 1) (va_cpy (τ (182 + 2 * x1.toNatClampNeg + 1)) (τ (182 + 2 * x3.toNatClampNeg + 1)) x2.toNatClampNeg x4.toNatClampNeg x5.toNatClampNeg)))) else (g_X8_found ((-1000003)) τ)) else (g_X8_found (f_X8_troubleWithEither x1 x3 τ) τ)
def p_X8_copy  (x1 : Int32) (x2 : Int32) (x3 : Int32) (x4 : Int32) (x5 : Int32) (τ : tw_T) : Prop := p_X8_troubleWithEither x1 x3 τ ∧ (if (f_X8_troubleWithEither x1 x3 τ) = (0 : Int32) then (vp_in x1 4 ∧ (vp_in x3 4 ∧ (if (τ (182 + 2 * x1.toNatClampNeg) 1) = (τ (182 + 2 * x3.toNatClampNeg) 1) then (vp_in x1 4 ∧ (if (f_X5_hasPart (182 + 2 * x1.toNatClampNeg) x2 x5 τ) = (0 : Int32) then True else (vp_in x3 4 ∧ (if (f_X5_hasPart (182 + 2 * x3.toNatClampNeg) x4 x5 τ) = (0 : Int32) then True else (vp_in x1 4 ∧ (vp_in x3 4 ∧ ((¬ x2 < 0 ∧ ¬ x4 < 0 ∧ ¬ x5 < 0 ∧ x2.toNatClampNeg + x5.toNatClampNeg ≤ 40 ∧ x4.toNatClampNeg + x5.toNatClampNeg ≤ 40) ∧ True))))))) else True))) else True)
theorem ct_X8_copy {E : tw_E}   {x1 : Int32} {x2 : Int32} {x3 : Int32} {x4 : Int32} {x5 : Int32} {τ : tw_T} (hp : p_X8_copy x1 x2 x3 x4 x5 τ)  : tw_Ci E 3 mX8_copy [.ref 0, .int x1, .int x2, .int x3, .int x4, .int x5] τ (f_X8_copy x1 x2 x3 x4 x5 τ) (g_X8_copy x1 x2 x3 x4 x5 τ) := by
  unfold p_X8_copy at hp
  refine ct_of (by decide) (by simp [Value.category]) (Nat.le_of_ble_eq_true rfl) (fun K hE F => ?_)
  subst hE
  refine rw_aload_n F dc_X8_copy_0 rfl ?_
  refine rw_iload_n F dc_X8_copy_1 rfl ?_
  refine rw_iload_n F dc_X8_copy_2 rfl ?_
  obtain ⟨hs1, hp⟩ := hp
  refine rw_cVi F [_, _] dc_X8_copy_3 mv_X8_troubleWithEither ml_RX8_296 (by decide) (rc_8 (by first | rfl | assumption | decide | exact r73_k (by assumption) | exact fb_k (by assumption) | exact sb_k (by assumption) | exact tb_k (by assumption) | exact sb_li (by assumption) | exact sb_s (by assumption) | exact tb_n (by assumption) | exact fb_k (sb_f (by assumption)))) rfl rfl (Nat.le_of_ble_eq_true rfl) (ct_X8_troubleWithEither hs1) ?_
  refine rw_istore F dc_X8_copy_6 (by decide) rfl ?_
  refine rw_iload F dc_X8_copy_8 rfl ?_
  refine rw_if_eq (tgt := 20) F dc_X8_copy_10 rfl (fun c2 => ?_) (fun c2 => ?_)
  · rw [if_pos c2] at hp
    refine rw_aload_n F dc_X8_copy_20 rfl ?_
    refine rw_getR F dc_X8_copy_21 fl_RX8_32 (by first | rfl | assumption | decide | exact r73_k (by assumption) | exact fb_k (by assumption) | exact sb_k (by assumption) | exact tb_k (by assumption) | exact sb_li (by assumption) | exact sb_s (by assumption) | exact tb_n (by assumption) | exact fb_k (sb_f (by assumption))) (by first | rfl | assumption | exact lk6 (by assumption) _ | exact lk2 (by assumption) _ | exact fb_l0 (by assumption) | exact fb_l1 (by assumption) | exact sb_l0 (by assumption) | exact sb_l1 (by assumption) | exact sb_l2 (by assumption) | exact sb_l3 (by assumption) | exact tb_l0 (by assumption) | exact tb_l1 (by assumption) | exact tb_l2 (by assumption) | exact lk2 (sb_li (by assumption)) _ | exact fb_l0 (sb_f (by assumption)) | exact fb_l1 (sb_f (by assumption))) ?_
    refine rw_iload_n F dc_X8_copy_24 rfl ?_
    obtain ⟨hs3, hp⟩ := hp
    refine rw_aaSheet F dc_X8_copy_25 hs3 (fun hk4 => ?_)
    refine rw_getI F dc_X8_copy_26 fl_RX8_299 (by first | rfl | assumption | decide | exact r73_k (by assumption) | exact fb_k (by assumption) | exact sb_k (by assumption) | exact tb_k (by assumption) | exact sb_li (by assumption) | exact sb_s (by assumption) | exact tb_n (by assumption) | exact fb_k (sb_f (by assumption))) (by first | rfl | assumption | exact lk6 (by assumption) _ | exact lk2 (by assumption) _ | exact fb_l0 (by assumption) | exact fb_l1 (by assumption) | exact sb_l0 (by assumption) | exact sb_l1 (by assumption) | exact sb_l2 (by assumption) | exact sb_l3 (by assumption) | exact tb_l0 (by assumption) | exact tb_l1 (by assumption) | exact tb_l2 (by assumption) | exact lk2 (sb_li (by assumption)) _ | exact fb_l0 (sb_f (by assumption)) | exact fb_l1 (sb_f (by assumption))) ?_
    refine rw_aload_n F dc_X8_copy_29 rfl ?_
    refine rw_getR F dc_X8_copy_30 fl_RX8_32 (by first | rfl | assumption | decide | exact r73_k (by assumption) | exact fb_k (by assumption) | exact sb_k (by assumption) | exact tb_k (by assumption) | exact sb_li (by assumption) | exact sb_s (by assumption) | exact tb_n (by assumption) | exact fb_k (sb_f (by assumption))) (by first | rfl | assumption | exact lk6 (by assumption) _ | exact lk2 (by assumption) _ | exact fb_l0 (by assumption) | exact fb_l1 (by assumption) | exact sb_l0 (by assumption) | exact sb_l1 (by assumption) | exact sb_l2 (by assumption) | exact sb_l3 (by assumption) | exact tb_l0 (by assumption) | exact tb_l1 (by assumption) | exact tb_l2 (by assumption) | exact lk2 (sb_li (by assumption)) _ | exact fb_l0 (sb_f (by assumption)) | exact fb_l1 (sb_f (by assumption))) ?_
    refine rw_iload_n F dc_X8_copy_33 rfl ?_
    obtain ⟨hs5, hp⟩ := hp
    refine rw_aaSheet F dc_X8_copy_34 hs5 (fun hk6 => ?_)
    refine rw_getI F dc_X8_copy_35 fl_RX8_299 (by first | rfl | assumption | decide | exact r73_k (by assumption) | exact fb_k (by assumption) | exact sb_k (by assumption) | exact tb_k (by assumption) | exact sb_li (by assumption) | exact sb_s (by assumption) | exact tb_n (by assumption) | exact fb_k (sb_f (by assumption))) (by first | rfl | assumption | exact lk6 (by assumption) _ | exact lk2 (by assumption) _ | exact fb_l0 (by assumption) | exact fb_l1 (by assumption) | exact sb_l0 (by assumption) | exact sb_l1 (by assumption) | exact sb_l2 (by assumption) | exact sb_l3 (by assumption) | exact tb_l0 (by assumption) | exact tb_l1 (by assumption) | exact tb_l2 (by assumption) | exact lk2 (sb_li (by assumption)) _ | exact fb_l0 (sb_f (by assumption)) | exact fb_l1 (sb_f (by assumption))) ?_
    refine rw_icmp_eq (tgt := 49) F dc_X8_copy_38 rfl (fun c7 => ?_) (fun c7 => ?_)
    · rw [if_pos c7] at hp
      refine rw_aload_n F dc_X8_copy_49 rfl ?_
      refine rw_getR F dc_X8_copy_50 fl_RX8_32 (by first | rfl | assumption | decide | exact r73_k (by assumption) | exact fb_k (by assumption) | exact sb_k (by assumption) | exact tb_k (by assumption) | exact sb_li (by assumption) | exact sb_s (by assumption) | exact tb_n (by assumption) | exact fb_k (sb_f (by assumption))) (by first | rfl | assumption | exact lk6 (by assumption) _ | exact lk2 (by assumption) _ | exact fb_l0 (by assumption) | exact fb_l1 (by assumption) | exact sb_l0 (by assumption) | exact sb_l1 (by assumption) | exact sb_l2 (by assumption) | exact sb_l3 (by assumption) | exact tb_l0 (by assumption) | exact tb_l1 (by assumption) | exact tb_l2 (by assumption) | exact lk2 (sb_li (by assumption)) _ | exact fb_l0 (sb_f (by assumption)) | exact fb_l1 (sb_f (by assumption))) ?_
      refine rw_iload_n F dc_X8_copy_53 rfl ?_
      obtain ⟨hs8, hp⟩ := hp
      refine rw_aaSheet F dc_X8_copy_54 hs8 (fun hk9 => ?_)
      refine rw_iload_n F dc_X8_copy_55 rfl ?_
      refine rw_iload F dc_X8_copy_56 rfl ?_
      refine rw_cVi F [_, _] dc_X8_copy_58 mv_X5_hasPart ml_RX8_302 (by decide) (rc_5 (by first | rfl | assumption | decide | exact r73_k (by assumption) | exact fb_k (by assumption) | exact sb_k (by assumption) | exact tb_k (by assumption) | exact sb_li (by assumption) | exact sb_s (by assumption) | exact tb_n (by assumption) | exact fb_k (sb_f (by assumption)))) rfl rfl (Nat.le_of_ble_eq_true rfl) ct_X5_hasPart ?_
      refine rw_if_eq (tgt := 80) F dc_X8_copy_61 rfl (fun c10 => ?_) (fun c10 => ?_)
      · rw [if_pos c10] at hp
        refine rw_aload_n F dc_X8_copy_80 rfl ?_
        refine rw_ldc F dc_X8_copy_81 kc_RX8_82 ?_
        refine rw_cVi F [_] dc_X8_copy_83 mv_X8_found ml_RX8_83 (by decide) (rc_8 (by first | rfl | assumption | decide | exact r73_k (by assumption) | exact fb_k (by assumption) | exact sb_k (by assumption) | exact tb_k (by assumption) | exact sb_li (by assumption) | exact sb_s (by assumption) | exact tb_n (by assumption) | exact fb_k (sb_f (by assumption)))) rfl rfl (Nat.le_of_ble_eq_true rfl) cn_X8_found ?_
        refine rw_iret F dc_X8_copy_86 rfl rfl ?_
        exact ⟨by first | (simp only [f_X8_copy, g_X8_copy, if_pos c2, if_pos c7, if_pos c10]; done) | rfl | (simp only [f_X8_copy, g_X8_copy, if_pos c2, if_pos c7, if_pos c10]; rfl), by first | (simp only [f_X8_copy, g_X8_copy, if_pos c2, if_pos c7, if_pos c10]; done) | rfl | (simp only [f_X8_copy, g_X8_copy, if_pos c2, if_pos c7, if_pos c10]; rfl)⟩
      · rw [if_neg c10] at hp
        refine rw_aload_n F dc_X8_copy_64 rfl ?_
        refine rw_getR F dc_X8_copy_65 fl_RX8_32 (by first | rfl | assumption | decide | exact r73_k (by assumption) | exact fb_k (by assumption) | exact sb_k (by assumption) | exact tb_k (by assumption) | exact sb_li (by assumption) | exact sb_s (by assumption) | exact tb_n (by assumption) | exact fb_k (sb_f (by assumption))) (by first | rfl | assumption | exact lk6 (by assumption) _ | exact lk2 (by assumption) _ | exact fb_l0 (by assumption) | exact fb_l1 (by assumption) | exact sb_l0 (by assumption) | exact sb_l1 (by assumption) | exact sb_l2 (by assumption) | exact sb_l3 (by assumption) | exact tb_l0 (by assumption) | exact tb_l1 (by assumption) | exact tb_l2 (by assumption) | exact lk2 (sb_li (by assumption)) _ | exact fb_l0 (sb_f (by assumption)) | exact fb_l1 (sb_f (by assumption))) ?_
        refine rw_iload_n F dc_X8_copy_68 rfl ?_
        obtain ⟨hs11, hp⟩ := hp
        refine rw_aaSheet F dc_X8_copy_69 hs11 (fun hk12 => ?_)
        refine rw_iload F dc_X8_copy_70 rfl ?_
        refine rw_iload F dc_X8_copy_72 rfl ?_
        refine rw_cVi F [_, _] dc_X8_copy_74 mv_X5_hasPart ml_RX8_302 (by decide) (rc_5 (by first | rfl | assumption | decide | exact r73_k (by assumption) | exact fb_k (by assumption) | exact sb_k (by assumption) | exact tb_k (by assumption) | exact sb_li (by assumption) | exact sb_s (by assumption) | exact tb_n (by assumption) | exact fb_k (sb_f (by assumption)))) rfl rfl (Nat.le_of_ble_eq_true rfl) ct_X5_hasPart ?_
        refine rw_if_ne (tgt := 87) F dc_X8_copy_77 rfl (fun c13 => ?_) (fun c13 => ?_)
        · rw [if_neg c13] at hp
          refine rw_aload_n F dc_X8_copy_87 rfl ?_
          refine rw_getR F dc_X8_copy_88 fl_RX8_32 (by first | rfl | assumption | decide | exact r73_k (by assumption) | exact fb_k (by assumption) | exact sb_k (by assumption) | exact tb_k (by assumption) | exact sb_li (by assumption) | exact sb_s (by assumption) | exact tb_n (by assumption) | exact fb_k (sb_f (by assumption))) (by first | rfl | assumption | exact lk6 (by assumption) _ | exact lk2 (by assumption) _ | exact fb_l0 (by assumption) | exact fb_l1 (by assumption) | exact sb_l0 (by assumption) | exact sb_l1 (by assumption) | exact sb_l2 (by assumption) | exact sb_l3 (by assumption) | exact tb_l0 (by assumption) | exact tb_l1 (by assumption) | exact tb_l2 (by assumption) | exact lk2 (sb_li (by assumption)) _ | exact fb_l0 (sb_f (by assumption)) | exact fb_l1 (sb_f (by assumption))) ?_
          refine rw_iload_n F dc_X8_copy_91 rfl ?_
          obtain ⟨hs14, hp⟩ := hp
          refine rw_aaSheet F dc_X8_copy_92 hs14 (fun hk15 => ?_)
          refine rw_getR F dc_X8_copy_93 fl_RX8_305 (by first | rfl | assumption | decide | exact r73_k (by assumption) | exact fb_k (by assumption) | exact sb_k (by assumption) | exact tb_k (by assumption) | exact sb_li (by assumption) | exact sb_s (by assumption) | exact tb_n (by assumption) | exact fb_k (sb_f (by assumption))) (by first | rfl | assumption | exact lk6 (by assumption) _ | exact lk2 (by assumption) _ | exact fb_l0 (by assumption) | exact fb_l1 (by assumption) | exact sb_l0 (by assumption) | exact sb_l1 (by assumption) | exact sb_l2 (by assumption) | exact sb_l3 (by assumption) | exact tb_l0 (by assumption) | exact tb_l1 (by assumption) | exact tb_l2 (by assumption) | exact lk2 (sb_li (by assumption)) _ | exact fb_l0 (sb_f (by assumption)) | exact fb_l1 (sb_f (by assumption))) ?_
          refine rw_iload_n F dc_X8_copy_96 rfl ?_
          refine rw_aload_n F dc_X8_copy_97 rfl ?_
          refine rw_getR F dc_X8_copy_98 fl_RX8_32 (by first | rfl | assumption | decide | exact r73_k (by assumption) | exact fb_k (by assumption) | exact sb_k (by assumption) | exact tb_k (by assumption) | exact sb_li (by assumption) | exact sb_s (by assumption) | exact tb_n (by assumption) | exact fb_k (sb_f (by assumption))) (by first | rfl | assumption | exact lk6 (by assumption) _ | exact lk2 (by assumption) _ | exact fb_l0 (by assumption) | exact fb_l1 (by assumption) | exact sb_l0 (by assumption) | exact sb_l1 (by assumption) | exact sb_l2 (by assumption) | exact sb_l3 (by assumption) | exact tb_l0 (by assumption) | exact tb_l1 (by assumption) | exact tb_l2 (by assumption) | exact lk2 (sb_li (by assumption)) _ | exact fb_l0 (sb_f (by assumption)) | exact fb_l1 (sb_f (by assumption))) ?_
          refine rw_iload_n F dc_X8_copy_101 rfl ?_
          obtain ⟨hs16, hp⟩ := hp
          refine rw_aaSheet F dc_X8_copy_102 hs16 (fun hk17 => ?_)
          refine rw_getR F dc_X8_copy_103 fl_RX8_305 (by first | rfl | assumption | decide | exact r73_k (by assumption) | exact fb_k (by assumption) | exact sb_k (by assumption) | exact tb_k (by assumption) | exact sb_li (by assumption) | exact sb_s (by assumption) | exact tb_n (by assumption) | exact fb_k (sb_f (by assumption))) (by first | rfl | assumption | exact lk6 (by assumption) _ | exact lk2 (by assumption) _ | exact fb_l0 (by assumption) | exact fb_l1 (by assumption) | exact sb_l0 (by assumption) | exact sb_l1 (by assumption) | exact sb_l2 (by assumption) | exact sb_l3 (by assumption) | exact tb_l0 (by assumption) | exact tb_l1 (by assumption) | exact tb_l2 (by assumption) | exact lk2 (sb_li (by assumption)) _ | exact fb_l0 (sb_f (by assumption)) | exact fb_l1 (sb_f (by assumption))) ?_
          refine rw_iload F dc_X8_copy_106 rfl ?_
          refine rw_iload F dc_X8_copy_108 rfl ?_
          obtain ⟨hs18, hp⟩ := hp
          refine rw_copy F dc_X8_copy_110 ml_RX8_308 (by decide) (Nat.le_of_ble_eq_true rfl) wa_n wa_s wa_i (by first | rfl | assumption | decide | exact r73_k (by assumption) | exact fb_k (by assumption) | exact sb_k (by assumption) | exact tb_k (by assumption) | exact sb_li (by assumption) | exact sb_s (by assumption) | exact tb_n (by assumption) | exact fb_k (sb_f (by assumption))) (by first | rfl | assumption | decide | exact r73_k (by assumption) | exact fb_k (by assumption) | exact sb_k (by assumption) | exact tb_k (by assumption) | exact sb_li (by assumption) | exact sb_s (by assumption) | exact tb_n (by assumption) | exact fb_k (sb_f (by assumption))) hs18.1 hs18.2.1 hs18.2.2.1 (Nat.le_trans hs18.2.2.2.1 (Nat.le_of_eq (Eq.symm (by first | rfl | exact r73_n (by assumption) | exact sb_sn (by assumption) | exact tb_nn (by assumption))))) (Nat.le_trans hs18.2.2.2.2 (Nat.le_of_eq (Eq.symm (by first | rfl | exact r73_n (by assumption) | exact sb_sn (by assumption) | exact tb_nn (by assumption))))) ?_
          refine rw_iload F dc_X8_copy_113 rfl ?_
          refine rw_iret F dc_X8_copy_115 rfl rfl ?_
          exact ⟨by first | (simp only [f_X8_copy, g_X8_copy, if_pos c2, if_pos c7, if_neg c10, if_neg c13]; done) | rfl | (simp only [f_X8_copy, g_X8_copy, if_pos c2, if_pos c7, if_neg c10, if_neg c13]; rfl), by first | (simp only [f_X8_copy, g_X8_copy, if_pos c2, if_pos c7, if_neg c10, if_neg c13]; done) | rfl | (simp only [f_X8_copy, g_X8_copy, if_pos c2, if_pos c7, if_neg c10, if_neg c13]; rfl)⟩
        · rw [if_pos c13] at hp
          refine rw_aload_n F dc_X8_copy_80 rfl ?_
          refine rw_ldc F dc_X8_copy_81 kc_RX8_82 ?_
          refine rw_cVi F [_] dc_X8_copy_83 mv_X8_found ml_RX8_83 (by decide) (rc_8 (by first | rfl | assumption | decide | exact r73_k (by assumption) | exact fb_k (by assumption) | exact sb_k (by assumption) | exact tb_k (by assumption) | exact sb_li (by assumption) | exact sb_s (by assumption) | exact tb_n (by assumption) | exact fb_k (sb_f (by assumption)))) rfl rfl (Nat.le_of_ble_eq_true rfl) cn_X8_found ?_
          refine rw_iret F dc_X8_copy_86 rfl rfl ?_
          exact ⟨by first | (simp only [f_X8_copy, g_X8_copy, if_pos c2, if_pos c7, if_neg c10, if_pos c13]; done) | rfl | (simp only [f_X8_copy, g_X8_copy, if_pos c2, if_pos c7, if_neg c10, if_pos c13]; rfl), by first | (simp only [f_X8_copy, g_X8_copy, if_pos c2, if_pos c7, if_neg c10, if_pos c13]; done) | rfl | (simp only [f_X8_copy, g_X8_copy, if_pos c2, if_pos c7, if_neg c10, if_pos c13]; rfl)⟩
    · rw [if_neg c7] at hp
      refine rw_aload_n F dc_X8_copy_41 rfl ?_
      refine rw_ldcw F dc_X8_copy_42 kc_RX8_287 ?_
      refine rw_cVi F [_] dc_X8_copy_45 mv_X8_found ml_RX8_83 (by decide) (rc_8 (by first | rfl | assumption | decide | exact r73_k (by assumption) | exact fb_k (by assumption) | exact sb_k (by assumption) | exact tb_k (by assumption) | exact sb_li (by assumption) | exact sb_s (by assumption) | exact tb_n (by assumption) | exact fb_k (sb_f (by assumption)))) rfl rfl (Nat.le_of_ble_eq_true rfl) cn_X8_found ?_
      refine rw_iret F dc_X8_copy_48 rfl rfl ?_
      exact ⟨by first | (simp only [f_X8_copy, g_X8_copy, if_pos c2, if_neg c7]; done) | rfl | (simp only [f_X8_copy, g_X8_copy, if_pos c2, if_neg c7]; rfl), by first | (simp only [f_X8_copy, g_X8_copy, if_pos c2, if_neg c7]; done) | rfl | (simp only [f_X8_copy, g_X8_copy, if_pos c2, if_neg c7]; rfl)⟩
  · rw [if_neg c2] at hp
    refine rw_aload_n F dc_X8_copy_13 rfl ?_
    refine rw_iload F dc_X8_copy_14 rfl ?_
    refine rw_cVi F [_] dc_X8_copy_16 mv_X8_found ml_RX8_83 (by decide) (rc_8 (by first | rfl | assumption | decide | exact r73_k (by assumption) | exact fb_k (by assumption) | exact sb_k (by assumption) | exact tb_k (by assumption) | exact sb_li (by assumption) | exact sb_s (by assumption) | exact tb_n (by assumption) | exact fb_k (sb_f (by assumption)))) rfl rfl (Nat.le_of_ble_eq_true rfl) cn_X8_found ?_
    refine rw_iret F dc_X8_copy_19 rfl rfl ?_
    exact ⟨by first | (simp only [f_X8_copy, g_X8_copy, if_neg c2]; done) | rfl | (simp only [f_X8_copy, g_X8_copy, if_neg c2]; rfl), by first | (simp only [f_X8_copy, g_X8_copy, if_neg c2]; done) | rfl | (simp only [f_X8_copy, g_X8_copy, if_neg c2]; rfl)⟩
def lf_X8_load_18 (N : Nat)  : Nat → Int32 → Int32 → Int32 → tw_T → Int32
  | 0, _, _, _, _ => 0
  | n + 1, x1, x2, x3, τ => if (τ (182 + 2 * x1.toNatClampNeg) 2) ≤ x3 then x3 else (if (f_X8_isShip x3 τ) = (0 : Int32) then x3 else (if (f_X8_within (τ (182 + 2 * x1.toNatClampNeg + 1) x3.toNatClampNeg) 0 5 τ) = (0 : Int32) then x3 else (lf_X8_load_18 N n x1 x2 (x3 + 1) (tw_sr τ (3 + 2 + x3.toNatClampNeg) (upd (τ (3 + 2 + x3.toNatClampNeg)) 3 (τ (182 + 2 * x1.toNatClampNeg + 1) x3.toNatClampNeg))))))
def lg_X8_load_18 (N : Nat)  : Nat → Int32 → Int32 → Int32 → tw_T → tw_T
  | 0, _, _, _, τ => τ
  | n + 1, x1, x2, x3, τ => if (τ (182 + 2 * x1.toNatClampNeg) 2) ≤ x3 then τ else (if (f_X8_isShip x3 τ) = (0 : Int32) then τ else (if (f_X8_within (τ (182 + 2 * x1.toNatClampNeg + 1) x3.toNatClampNeg) 0 5 τ) = (0 : Int32) then τ else (lg_X8_load_18 N n x1 x2 (x3 + 1) (tw_sr τ (3 + 2 + x3.toNatClampNeg) (upd (τ (3 + 2 + x3.toNatClampNeg)) 3 (τ (182 + 2 * x1.toNatClampNeg + 1) x3.toNatClampNeg))))))
def lo_X8_load_18 (N : Nat)  : Nat → Int32 → Int32 → Int32 → tw_T → Prop
  | 0, _, _, _, _ => False
  | n + 1, x1, x2, x3, τ => vp_in x1 4 ∧ (if (τ (182 + 2 * x1.toNatClampNeg) 2) ≤ x3 then True else (if (f_X8_isShip x3 τ) = (0 : Int32) then True else (vp_in x1 4 ∧ (vp_in x3 40 ∧ (if (f_X8_within (τ (182 + 2 * x1.toNatClampNeg + 1) x3.toNatClampNeg) 0 5 τ) = (0 : Int32) then True else (vp_in x3 8 ∧ (vp_in x1 4 ∧ (vp_in x3 40 ∧ (lo_X8_load_18 N n x1 x2 (x3 + 1) (tw_sr τ (3 + 2 + x3.toNatClampNeg) (upd (τ (3 + 2 + x3.toNatClampNeg)) 3 (τ (182 + 2 * x1.toNatClampNeg + 1) x3.toNatClampNeg))))))))))))
def f_X8_load (N : Nat)  (x1 : Int32) (τ : tw_T) : Int32 := if (f_X8_troubleWith x1 τ) = (0 : Int32) then (lf_X8_load_18 N N x1 (f_X8_troubleWith x1 τ) 0 τ) else (f_X8_troubleWith x1 τ)
def g_X8_load (N : Nat)  (x1 : Int32) (τ : tw_T) : tw_T := if (f_X8_troubleWith x1 τ) = (0 : Int32) then (lg_X8_load_18 N N x1 (f_X8_troubleWith x1 τ) 0 τ) else (g_X8_found (f_X8_troubleWith x1 τ) τ)
def p_X8_load (N : Nat)  (x1 : Int32) (τ : tw_T) : Prop := p_X8_troubleWith x1 τ ∧ (if (f_X8_troubleWith x1 τ) = (0 : Int32) then (lo_X8_load_18 N N x1 (f_X8_troubleWith x1 τ) 0 τ) else True)
theorem lp_X8_load_18 {K : tw_K} {Q : Option Value → tw_T → Prop} (F : tw_F K mX8_load 3 Q)   (N : Nat)  : ∀ (n : Nat) (x1 : Int32) (x2 : Int32) (x3 : Int32) (τ : tw_T), lo_X8_load_18 N n x1 x2 x3 τ → Q (some (.int (lf_X8_load_18 N n x1 x2 x3 τ))) (lg_X8_load_18 N n x1 x2 x3 τ) → tw_R K 18 [.ref 0, .int x1, .int x2, .int x3] [] τ := by
  intro n
  induction n with
  | zero => intro x1 x2 x3 τ hp _; exact False.elim hp
  | succ n ih =>
    intro x1 x2 x3 τ hp hq
    simp only [lo_X8_load_18] at hp
    simp only [lf_X8_load_18, lg_X8_load_18] at hq
    refine rw_iload_n F dc_X8_load_18 rfl ?_
    refine rw_aload_n F dc_X8_load_19 rfl ?_
    refine rw_getR F dc_X8_load_20 fl_RX8_32 (by first | rfl | assumption | decide | exact r73_k (by assumption) | exact fb_k (by assumption) | exact sb_k (by assumption) | exact tb_k (by assumption) | exact sb_li (by assumption) | exact sb_s (by assumption) | exact tb_n (by assumption) | exact fb_k (sb_f (by assumption))) (by first | rfl | assumption | exact lk6 (by assumption) _ | exact lk2 (by assumption) _ | exact fb_l0 (by assumption) | exact fb_l1 (by assumption) | exact sb_l0 (by assumption) | exact sb_l1 (by assumption) | exact sb_l2 (by assumption) | exact sb_l3 (by assumption) | exact tb_l0 (by assumption) | exact tb_l1 (by assumption) | exact tb_l2 (by assumption) | exact lk2 (sb_li (by assumption)) _ | exact fb_l0 (sb_f (by assumption)) | exact fb_l1 (sb_f (by assumption))) ?_
    refine rw_iload_n F dc_X8_load_23 rfl ?_
    obtain ⟨hs1, hp⟩ := hp
    refine rw_aaSheet F dc_X8_load_24 hs1 (fun hk2 => ?_)
    refine rw_getI F dc_X8_load_25 fl_RX8_292 (by first | rfl | assumption | decide | exact r73_k (by assumption) | exact fb_k (by assumption) | exact sb_k (by assumption) | exact tb_k (by assumption) | exact sb_li (by assumption) | exact sb_s (by assumption) | exact tb_n (by assumption) | exact fb_k (sb_f (by assumption))) (by first | rfl | assumption | exact lk6 (by assumption) _ | exact lk2 (by assumption) _ | exact fb_l0 (by assumption) | exact fb_l1 (by assumption) | exact sb_l0 (by assumption) | exact sb_l1 (by assumption) | exact sb_l2 (by assumption) | exact sb_l3 (by assumption) | exact tb_l0 (by assumption) | exact tb_l1 (by assumption) | exact tb_l2 (by assumption) | exact lk2 (sb_li (by assumption)) _ | exact fb_l0 (sb_f (by assumption)) | exact fb_l1 (sb_f (by assumption))) ?_
    refine rw_icmp_ge (tgt := 90) F dc_X8_load_28 rfl (fun c3 => ?_) (fun c3 => ?_)
    · rw [if_pos c3] at hp
      refine rw_iload_n F dc_X8_load_90 rfl ?_
      refine rw_iret F dc_X8_load_91 rfl rfl ?_
      exact (by simpa only [if_pos c3] using hq)
    · rw [if_neg c3] at hp
      refine rw_aload_n F dc_X8_load_31 rfl ?_
      refine rw_iload_n F dc_X8_load_32 rfl ?_
      refine rw_cVi F [_] dc_X8_load_33 mv_X8_isShip ml_RX8_119 (by decide) (rc_8 (by first | rfl | assumption | decide | exact r73_k (by assumption) | exact fb_k (by assumption) | exact sb_k (by assumption) | exact tb_k (by assumption) | exact sb_li (by assumption) | exact sb_s (by assumption) | exact tb_n (by assumption) | exact fb_k (sb_f (by assumption)))) rfl rfl (Nat.le_of_ble_eq_true rfl) ct_X8_isShip ?_
      refine rw_if_eq (tgt := 90) F dc_X8_load_36 rfl (fun c4 => ?_) (fun c4 => ?_)
      · rw [if_pos c4] at hp
        refine rw_iload_n F dc_X8_load_90 rfl ?_
        refine rw_iret F dc_X8_load_91 rfl rfl ?_
        exact (by simpa only [if_neg c3, if_pos c4] using hq)
      · rw [if_neg c4] at hp
        refine rw_aload_n F dc_X8_load_39 rfl ?_
        refine rw_getR F dc_X8_load_40 fl_RX8_32 (by first | rfl | assumption | decide | exact r73_k (by assumption) | exact fb_k (by assumption) | exact sb_k (by assumption) | exact tb_k (by assumption) | exact sb_li (by assumption) | exact sb_s (by assumption) | exact tb_n (by assumption) | exact fb_k (sb_f (by assumption))) (by first | rfl | assumption | exact lk6 (by assumption) _ | exact lk2 (by assumption) _ | exact fb_l0 (by assumption) | exact fb_l1 (by assumption) | exact sb_l0 (by assumption) | exact sb_l1 (by assumption) | exact sb_l2 (by assumption) | exact sb_l3 (by assumption) | exact tb_l0 (by assumption) | exact tb_l1 (by assumption) | exact tb_l2 (by assumption) | exact lk2 (sb_li (by assumption)) _ | exact fb_l0 (sb_f (by assumption)) | exact fb_l1 (sb_f (by assumption))) ?_
        refine rw_iload_n F dc_X8_load_43 rfl ?_
        obtain ⟨hs5, hp⟩ := hp
        refine rw_aaSheet F dc_X8_load_44 hs5 (fun hk6 => ?_)
        refine rw_getR F dc_X8_load_45 fl_RX8_305 (by first | rfl | assumption | decide | exact r73_k (by assumption) | exact fb_k (by assumption) | exact sb_k (by assumption) | exact tb_k (by assumption) | exact sb_li (by assumption) | exact sb_s (by assumption) | exact tb_n (by assumption) | exact fb_k (sb_f (by assumption))) (by first | rfl | assumption | exact lk6 (by assumption) _ | exact lk2 (by assumption) _ | exact fb_l0 (by assumption) | exact fb_l1 (by assumption) | exact sb_l0 (by assumption) | exact sb_l1 (by assumption) | exact sb_l2 (by assumption) | exact sb_l3 (by assumption) | exact tb_l0 (by assumption) | exact tb_l1 (by assumption) | exact tb_l2 (by assumption) | exact lk2 (sb_li (by assumption)) _ | exact fb_l0 (sb_f (by assumption)) | exact fb_l1 (sb_f (by assumption))) ?_
        refine rw_iload_n F dc_X8_load_48 rfl ?_
        obtain ⟨hs7, hp⟩ := hp
        refine rw_iaC F dc_X8_load_49 (by first | rfl | assumption | decide | exact r73_k (by assumption) | exact fb_k (by assumption) | exact sb_k (by assumption) | exact tb_k (by assumption) | exact sb_li (by assumption) | exact sb_s (by assumption) | exact tb_n (by assumption) | exact fb_k (sb_f (by assumption))) (by first | rfl | exact r73_n (by assumption) | exact sb_sn (by assumption) | exact tb_nn (by assumption)) hs7 ?_
        refine rw_iconst (v := 0) F dc_X8_load_50 rfl ?_
        refine rw_iconst (v := 5) F dc_X8_load_51 rfl ?_
        refine rw_cSi F [_, _, _] dc_X8_load_52 ms_X8_within ml_RX8_97 (by decide)  rfl rfl (Nat.le_of_ble_eq_true rfl) ct_X8_within ?_
        refine rw_if_eq (tgt := 90) F dc_X8_load_55 rfl (fun c8 => ?_) (fun c8 => ?_)
        · rw [if_pos c8] at hp
          refine rw_iload_n F dc_X8_load_90 rfl ?_
          refine rw_iret F dc_X8_load_91 rfl rfl ?_
          exact (by simpa only [if_neg c3, if_neg c4, if_pos c8] using hq)
        · rw [if_neg c8] at hp
          refine rw_aload_n F dc_X8_load_58 rfl ?_
          refine rw_getR F dc_X8_load_59 fl_RX8_12 (by first | rfl | assumption | decide | exact r73_k (by assumption) | exact fb_k (by assumption) | exact sb_k (by assumption) | exact tb_k (by assumption) | exact sb_li (by assumption) | exact sb_s (by assumption) | exact tb_n (by assumption) | exact fb_k (sb_f (by assumption))) (by first | rfl | assumption | exact lk6 (by assumption) _ | exact lk2 (by assumption) _ | exact fb_l0 (by assumption) | exact fb_l1 (by assumption) | exact sb_l0 (by assumption) | exact sb_l1 (by assumption) | exact sb_l2 (by assumption) | exact sb_l3 (by assumption) | exact tb_l0 (by assumption) | exact tb_l1 (by assumption) | exact tb_l2 (by assumption) | exact lk2 (sb_li (by assumption)) _ | exact fb_l0 (sb_f (by assumption)) | exact fb_l1 (sb_f (by assumption))) ?_
          refine rw_getR F dc_X8_load_62 fl_RX8_101 (by first | rfl | assumption | decide | exact r73_k (by assumption) | exact fb_k (by assumption) | exact sb_k (by assumption) | exact tb_k (by assumption) | exact sb_li (by assumption) | exact sb_s (by assumption) | exact tb_n (by assumption) | exact fb_k (sb_f (by assumption))) (by first | rfl | assumption | exact lk6 (by assumption) _ | exact lk2 (by assumption) _ | exact fb_l0 (by assumption) | exact fb_l1 (by assumption) | exact sb_l0 (by assumption) | exact sb_l1 (by assumption) | exact sb_l2 (by assumption) | exact sb_l3 (by assumption) | exact tb_l0 (by assumption) | exact tb_l1 (by assumption) | exact tb_l2 (by assumption) | exact lk2 (sb_li (by assumption)) _ | exact fb_l0 (sb_f (by assumption)) | exact fb_l1 (sb_f (by assumption))) ?_
          refine rw_getR F dc_X8_load_65 fl_RX8_123 (by first | rfl | assumption | decide | exact r73_k (by assumption) | exact fb_k (by assumption) | exact sb_k (by assumption) | exact tb_k (by assumption) | exact sb_li (by assumption) | exact sb_s (by assumption) | exact tb_n (by assumption) | exact fb_k (sb_f (by assumption))) (by first | rfl | assumption | exact lk6 (by assumption) _ | exact lk2 (by assumption) _ | exact fb_l0 (by assumption) | exact fb_l1 (by assumption) | exact sb_l0 (by assumption) | exact sb_l1 (by assumption) | exact sb_l2 (by assumption) | exact sb_l3 (by assumption) | exact tb_l0 (by assumption) | exact tb_l1 (by assumption) | exact tb_l2 (by assumption) | exact lk2 (sb_li (by assumption)) _ | exact fb_l0 (sb_f (by assumption)) | exact fb_l1 (sb_f (by assumption))) ?_
          refine rw_iload_n F dc_X8_load_68 rfl ?_
          obtain ⟨hs9, hp⟩ := hp
          refine rw_aaShip F dc_X8_load_69 (by first | assumption | exact (show _ ∈ tw_fbL by decide) | exact sb_f (by assumption)) hs9 (fun hk10 => ?_)
          refine rw_aload_n F dc_X8_load_70 rfl ?_
          refine rw_getR F dc_X8_load_71 fl_RX8_32 (by first | rfl | assumption | decide | exact r73_k (by assumption) | exact fb_k (by assumption) | exact sb_k (by assumption) | exact tb_k (by assumption) | exact sb_li (by assumption) | exact sb_s (by assumption) | exact tb_n (by assumption) | exact fb_k (sb_f (by assumption))) (by first | rfl | assumption | exact lk6 (by assumption) _ | exact lk2 (by assumption) _ | exact fb_l0 (by assumption) | exact fb_l1 (by assumption) | exact sb_l0 (by assumption) | exact sb_l1 (by assumption) | exact sb_l2 (by assumption) | exact sb_l3 (by assumption) | exact tb_l0 (by assumption) | exact tb_l1 (by assumption) | exact tb_l2 (by assumption) | exact lk2 (sb_li (by assumption)) _ | exact fb_l0 (sb_f (by assumption)) | exact fb_l1 (sb_f (by assumption))) ?_
          refine rw_iload_n F dc_X8_load_74 rfl ?_
          obtain ⟨hs11, hp⟩ := hp
          refine rw_aaSheet F dc_X8_load_75 hs11 (fun hk12 => ?_)
          refine rw_getR F dc_X8_load_76 fl_RX8_305 (by first | rfl | assumption | decide | exact r73_k (by assumption) | exact fb_k (by assumption) | exact sb_k (by assumption) | exact tb_k (by assumption) | exact sb_li (by assumption) | exact sb_s (by assumption) | exact tb_n (by assumption) | exact fb_k (sb_f (by assumption))) (by first | rfl | assumption | exact lk6 (by assumption) _ | exact lk2 (by assumption) _ | exact fb_l0 (by assumption) | exact fb_l1 (by assumption) | exact sb_l0 (by assumption) | exact sb_l1 (by assumption) | exact sb_l2 (by assumption) | exact sb_l3 (by assumption) | exact tb_l0 (by assumption) | exact tb_l1 (by assumption) | exact tb_l2 (by assumption) | exact lk2 (sb_li (by assumption)) _ | exact fb_l0 (sb_f (by assumption)) | exact fb_l1 (sb_f (by assumption))) ?_
          refine rw_iload_n F dc_X8_load_79 rfl ?_
          obtain ⟨hs13, hp⟩ := hp
          refine rw_iaC F dc_X8_load_80 (by first | rfl | assumption | decide | exact r73_k (by assumption) | exact fb_k (by assumption) | exact sb_k (by assumption) | exact tb_k (by assumption) | exact sb_li (by assumption) | exact sb_s (by assumption) | exact tb_n (by assumption) | exact fb_k (sb_f (by assumption))) (by first | rfl | exact r73_n (by assumption) | exact sb_sn (by assumption) | exact tb_nn (by assumption)) hs13 ?_
          refine rw_put F dc_X8_load_81 pf_RX8_314 (by first | rfl | assumption | decide | exact r73_k (by assumption) | exact fb_k (by assumption) | exact sb_k (by assumption) | exact tb_k (by assumption) | exact sb_li (by assumption) | exact sb_s (by assumption) | exact tb_n (by assumption) | exact fb_k (sb_f (by assumption))) (by first | rfl | assumption | exact lk6 (by assumption) _ | exact lk2 (by assumption) _ | exact fb_l0 (by assumption) | exact fb_l1 (by assumption) | exact sb_l0 (by assumption) | exact sb_l1 (by assumption) | exact sb_l2 (by assumption) | exact sb_l3 (by assumption) | exact tb_l0 (by assumption) | exact tb_l1 (by assumption) | exact tb_l2 (by assumption) | exact lk2 (sb_li (by assumption)) _ | exact fb_l0 (sb_f (by assumption)) | exact fb_l1 (sb_f (by assumption))) rfl rfl ?_
          refine rw_inc (n1 := 1) F dc_X8_load_84 rfl rfl (by decide) rfl ?_
          refine rw_goto (tgt := 18) F dc_X8_load_87 rfl ?_
          exact ih _ _ _ _ hp (by simpa only [if_neg c3, if_neg c4, if_neg c8] using hq)
theorem cr_X8_load {E : tw_E}  {N : Nat}  {x1 : Int32} {τ : tw_T} (hp : p_X8_load N x1 τ)  : tw_Ci E 3 mX8_load [.ref 0, .int x1] τ (f_X8_load N x1 τ) (g_X8_load N x1 τ) := by
  unfold p_X8_load at hp
  refine ct_of (by decide) (by simp [Value.category]) (Nat.le_of_ble_eq_true rfl) (fun K hE F => ?_)
  subst hE
  refine rw_aload_n F dc_X8_load_0 rfl ?_
  refine rw_iload_n F dc_X8_load_1 rfl ?_
  obtain ⟨hs1, hp⟩ := hp
  refine rw_cVi F [_] dc_X8_load_2 mv_X8_troubleWith ml_RX8_228 (by decide) (rc_8 (by first | rfl | assumption | decide | exact r73_k (by assumption) | exact fb_k (by assumption) | exact sb_k (by assumption) | exact tb_k (by assumption) | exact sb_li (by assumption) | exact sb_s (by assumption) | exact tb_n (by assumption) | exact fb_k (sb_f (by assumption)))) rfl rfl (Nat.le_of_ble_eq_true rfl) (ct_X8_troubleWith hs1) ?_
  refine rw_istore_n F dc_X8_load_5 (by decide) rfl ?_
  refine rw_iload_n F dc_X8_load_6 rfl ?_
  refine rw_if_eq (tgt := 16) F dc_X8_load_7 rfl (fun c2 => ?_) (fun c2 => ?_)
  · rw [if_pos c2] at hp
    refine rw_iconst (v := 0) F dc_X8_load_16 rfl ?_
    refine rw_istore_n F dc_X8_load_17 (by decide) rfl ?_
    exact lp_X8_load_18 F  N N _ _ _ _ hp ⟨by first | (simp only [f_X8_load, g_X8_load, if_pos c2]; done) | rfl | (simp only [f_X8_load, g_X8_load, if_pos c2]; rfl), by first | (simp only [f_X8_load, g_X8_load, if_pos c2]; done) | rfl | (simp only [f_X8_load, g_X8_load, if_pos c2]; rfl)⟩
  · rw [if_neg c2] at hp
    refine rw_aload_n F dc_X8_load_10 rfl ?_
    refine rw_iload_n F dc_X8_load_11 rfl ?_
    refine rw_cVi F [_] dc_X8_load_12 mv_X8_found ml_RX8_83 (by decide) (rc_8 (by first | rfl | assumption | decide | exact r73_k (by assumption) | exact fb_k (by assumption) | exact sb_k (by assumption) | exact tb_k (by assumption) | exact sb_li (by assumption) | exact sb_s (by assumption) | exact tb_n (by assumption) | exact fb_k (sb_f (by assumption)))) rfl rfl (Nat.le_of_ble_eq_true rfl) cn_X8_found ?_
    refine rw_iret F dc_X8_load_15 rfl rfl ?_
    exact ⟨by first | (simp only [f_X8_load, g_X8_load, if_neg c2]; done) | rfl | (simp only [f_X8_load, g_X8_load, if_neg c2]; rfl), by first | (simp only [f_X8_load, g_X8_load, if_neg c2]; done) | rfl | (simp only [f_X8_load, g_X8_load, if_neg c2]; rfl)⟩
def lf_X8_judge_18 (N : Nat)  : Nat → Int32 → Int32 → Int32 → tw_T → Int32
  | 0, _, _, _, _ => 0
  | n + 1, x1, x2, x3, τ => if (τ (182 + 2 * x1.toNatClampNeg) 2) ≤ x3 then 0 else (if (f_X8_isShip x3 τ) = (0 : Int32) then (1 + x3) else (if (τ (3 + 2 + x3.toNatClampNeg) 1) = (τ (182 + 2 * x1.toNatClampNeg + 1) x3.toNatClampNeg) then (lf_X8_judge_18 N n x1 x2 (x3 + 1) τ) else (1 + x3)))
def lg_X8_judge_18 (N : Nat)  : Nat → Int32 → Int32 → Int32 → tw_T → tw_T
  | 0, _, _, _, τ => τ
  | n + 1, x1, x2, x3, τ => if (τ (182 + 2 * x1.toNatClampNeg) 2) ≤ x3 then τ else (if (f_X8_isShip x3 τ) = (0 : Int32) then τ else (if (τ (3 + 2 + x3.toNatClampNeg) 1) = (τ (182 + 2 * x1.toNatClampNeg + 1) x3.toNatClampNeg) then (lg_X8_judge_18 N n x1 x2 (x3 + 1) τ) else τ))
def lo_X8_judge_18 (N : Nat)  : Nat → Int32 → Int32 → Int32 → tw_T → Prop
  | 0, _, _, _, _ => False
  | n + 1, x1, x2, x3, τ => vp_in x1 4 ∧ (if (τ (182 + 2 * x1.toNatClampNeg) 2) ≤ x3 then True else (if (f_X8_isShip x3 τ) = (0 : Int32) then True else (vp_in x3 8 ∧ (vp_in x1 4 ∧ (vp_in x3 40 ∧ (if (τ (3 + 2 + x3.toNatClampNeg) 1) = (τ (182 + 2 * x1.toNatClampNeg + 1) x3.toNatClampNeg) then (lo_X8_judge_18 N n x1 x2 (x3 + 1) τ) else True))))))
def f_X8_judge (N : Nat)  (x1 : Int32) (τ : tw_T) : Int32 := if (f_X8_troubleWith x1 τ) = (0 : Int32) then (lf_X8_judge_18 N N x1 (f_X8_troubleWith x1 τ) 0 τ) else (f_X8_troubleWith x1 τ)
def g_X8_judge (N : Nat)  (x1 : Int32) (τ : tw_T) : tw_T := if (f_X8_troubleWith x1 τ) = (0 : Int32) then (lg_X8_judge_18 N N x1 (f_X8_troubleWith x1 τ) 0 τ) else (g_X8_found (f_X8_troubleWith x1 τ) τ)
def p_X8_judge (N : Nat)  (x1 : Int32) (τ : tw_T) : Prop := p_X8_troubleWith x1 τ ∧ (if (f_X8_troubleWith x1 τ) = (0 : Int32) then (lo_X8_judge_18 N N x1 (f_X8_troubleWith x1 τ) 0 τ) else True)
theorem lp_X8_judge_18 {K : tw_K} {Q : Option Value → tw_T → Prop} (F : tw_F K mX8_judge 3 Q)   (N : Nat)  : ∀ (n : Nat) (x1 : Int32) (x2 : Int32) (x3 : Int32) (τ : tw_T), lo_X8_judge_18 N n x1 x2 x3 τ → Q (some (.int (lf_X8_judge_18 N n x1 x2 x3 τ))) (lg_X8_judge_18 N n x1 x2 x3 τ) → tw_R K 18 [.ref 0, .int x1, .int x2, .int x3] [] τ := by
  intro n
  induction n with
  | zero => intro x1 x2 x3 τ hp _; exact False.elim hp
  | succ n ih =>
    intro x1 x2 x3 τ hp hq
    simp only [lo_X8_judge_18] at hp
    simp only [lf_X8_judge_18, lg_X8_judge_18] at hq
    refine rw_iload_n F dc_X8_judge_18 rfl ?_
    refine rw_aload_n F dc_X8_judge_19 rfl ?_
    refine rw_getR F dc_X8_judge_20 fl_RX8_32 (by first | rfl | assumption | decide | exact r73_k (by assumption) | exact fb_k (by assumption) | exact sb_k (by assumption) | exact tb_k (by assumption) | exact sb_li (by assumption) | exact sb_s (by assumption) | exact tb_n (by assumption) | exact fb_k (sb_f (by assumption))) (by first | rfl | assumption | exact lk6 (by assumption) _ | exact lk2 (by assumption) _ | exact fb_l0 (by assumption) | exact fb_l1 (by assumption) | exact sb_l0 (by assumption) | exact sb_l1 (by assumption) | exact sb_l2 (by assumption) | exact sb_l3 (by assumption) | exact tb_l0 (by assumption) | exact tb_l1 (by assumption) | exact tb_l2 (by assumption) | exact lk2 (sb_li (by assumption)) _ | exact fb_l0 (sb_f (by assumption)) | exact fb_l1 (sb_f (by assumption))) ?_
    refine rw_iload_n F dc_X8_judge_23 rfl ?_
    obtain ⟨hs1, hp⟩ := hp
    refine rw_aaSheet F dc_X8_judge_24 hs1 (fun hk2 => ?_)
    refine rw_getI F dc_X8_judge_25 fl_RX8_292 (by first | rfl | assumption | decide | exact r73_k (by assumption) | exact fb_k (by assumption) | exact sb_k (by assumption) | exact tb_k (by assumption) | exact sb_li (by assumption) | exact sb_s (by assumption) | exact tb_n (by assumption) | exact fb_k (sb_f (by assumption))) (by first | rfl | assumption | exact lk6 (by assumption) _ | exact lk2 (by assumption) _ | exact fb_l0 (by assumption) | exact fb_l1 (by assumption) | exact sb_l0 (by assumption) | exact sb_l1 (by assumption) | exact sb_l2 (by assumption) | exact sb_l3 (by assumption) | exact tb_l0 (by assumption) | exact tb_l1 (by assumption) | exact tb_l2 (by assumption) | exact lk2 (sb_li (by assumption)) _ | exact fb_l0 (sb_f (by assumption)) | exact fb_l1 (sb_f (by assumption))) ?_
    refine rw_icmp_ge (tgt := 78) F dc_X8_judge_28 rfl (fun c3 => ?_) (fun c3 => ?_)
    · rw [if_pos c3] at hp
      refine rw_iconst (v := 0) F dc_X8_judge_78 rfl ?_
      refine rw_iret F dc_X8_judge_79 rfl rfl ?_
      exact (by simpa only [if_pos c3] using hq)
    · rw [if_neg c3] at hp
      refine rw_aload_n F dc_X8_judge_31 rfl ?_
      refine rw_iload_n F dc_X8_judge_32 rfl ?_
      refine rw_cVi F [_] dc_X8_judge_33 mv_X8_isShip ml_RX8_119 (by decide) (rc_8 (by first | rfl | assumption | decide | exact r73_k (by assumption) | exact fb_k (by assumption) | exact sb_k (by assumption) | exact tb_k (by assumption) | exact sb_li (by assumption) | exact sb_s (by assumption) | exact tb_n (by assumption) | exact fb_k (sb_f (by assumption)))) rfl rfl (Nat.le_of_ble_eq_true rfl) ct_X8_isShip ?_
      refine rw_if_eq (tgt := 68) F dc_X8_judge_36 rfl (fun c4 => ?_) (fun c4 => ?_)
      · rw [if_pos c4] at hp
        refine rw_iconst (v := 1) F dc_X8_judge_68 rfl ?_
        refine rw_iload_n F dc_X8_judge_69 rfl ?_
        refine rw_iadd F dc_X8_judge_70 ?_
        refine rw_iret F dc_X8_judge_71 rfl rfl ?_
        exact (by simpa only [if_neg c3, if_pos c4] using hq)
      · rw [if_neg c4] at hp
        refine rw_aload_n F dc_X8_judge_39 rfl ?_
        refine rw_getR F dc_X8_judge_40 fl_RX8_12 (by first | rfl | assumption | decide | exact r73_k (by assumption) | exact fb_k (by assumption) | exact sb_k (by assumption) | exact tb_k (by assumption) | exact sb_li (by assumption) | exact sb_s (by assumption) | exact tb_n (by assumption) | exact fb_k (sb_f (by assumption))) (by first | rfl | assumption | exact lk6 (by assumption) _ | exact lk2 (by assumption) _ | exact fb_l0 (by assumption) | exact fb_l1 (by assumption) | exact sb_l0 (by assumption) | exact sb_l1 (by assumption) | exact sb_l2 (by assumption) | exact sb_l3 (by assumption) | exact tb_l0 (by assumption) | exact tb_l1 (by assumption) | exact tb_l2 (by assumption) | exact lk2 (sb_li (by assumption)) _ | exact fb_l0 (sb_f (by assumption)) | exact fb_l1 (sb_f (by assumption))) ?_
        refine rw_getR F dc_X8_judge_43 fl_RX8_101 (by first | rfl | assumption | decide | exact r73_k (by assumption) | exact fb_k (by assumption) | exact sb_k (by assumption) | exact tb_k (by assumption) | exact sb_li (by assumption) | exact sb_s (by assumption) | exact tb_n (by assumption) | exact fb_k (sb_f (by assumption))) (by first | rfl | assumption | exact lk6 (by assumption) _ | exact lk2 (by assumption) _ | exact fb_l0 (by assumption) | exact fb_l1 (by assumption) | exact sb_l0 (by assumption) | exact sb_l1 (by assumption) | exact sb_l2 (by assumption) | exact sb_l3 (by assumption) | exact tb_l0 (by assumption) | exact tb_l1 (by assumption) | exact tb_l2 (by assumption) | exact lk2 (sb_li (by assumption)) _ | exact fb_l0 (sb_f (by assumption)) | exact fb_l1 (sb_f (by assumption))) ?_
        refine rw_getR F dc_X8_judge_46 fl_RX8_123 (by first | rfl | assumption | decide | exact r73_k (by assumption) | exact fb_k (by assumption) | exact sb_k (by assumption) | exact tb_k (by assumption) | exact sb_li (by assumption) | exact sb_s (by assumption) | exact tb_n (by assumption) | exact fb_k (sb_f (by assumption))) (by first | rfl | assumption | exact lk6 (by assumption) _ | exact lk2 (by assumption) _ | exact fb_l0 (by assumption) | exact fb_l1 (by assumption) | exact sb_l0 (by assumption) | exact sb_l1 (by assumption) | exact sb_l2 (by assumption) | exact sb_l3 (by assumption) | exact tb_l0 (by assumption) | exact tb_l1 (by assumption) | exact tb_l2 (by assumption) | exact lk2 (sb_li (by assumption)) _ | exact fb_l0 (sb_f (by assumption)) | exact fb_l1 (sb_f (by assumption))) ?_
        refine rw_iload_n F dc_X8_judge_49 rfl ?_
        obtain ⟨hs5, hp⟩ := hp
        refine rw_aaShip F dc_X8_judge_50 (by first | assumption | exact (show _ ∈ tw_fbL by decide) | exact sb_f (by assumption)) hs5 (fun hk6 => ?_)
        refine rw_getI F dc_X8_judge_51 fl_RX8_197 (by first | rfl | assumption | decide | exact r73_k (by assumption) | exact fb_k (by assumption) | exact sb_k (by assumption) | exact tb_k (by assumption) | exact sb_li (by assumption) | exact sb_s (by assumption) | exact tb_n (by assumption) | exact fb_k (sb_f (by assumption))) (by first | rfl | assumption | exact lk6 (by assumption) _ | exact lk2 (by assumption) _ | exact fb_l0 (by assumption) | exact fb_l1 (by assumption) | exact sb_l0 (by assumption) | exact sb_l1 (by assumption) | exact sb_l2 (by assumption) | exact sb_l3 (by assumption) | exact tb_l0 (by assumption) | exact tb_l1 (by assumption) | exact tb_l2 (by assumption) | exact lk2 (sb_li (by assumption)) _ | exact fb_l0 (sb_f (by assumption)) | exact fb_l1 (sb_f (by assumption))) ?_
        refine rw_aload_n F dc_X8_judge_54 rfl ?_
        refine rw_getR F dc_X8_judge_55 fl_RX8_32 (by first | rfl | assumption | decide | exact r73_k (by assumption) | exact fb_k (by assumption) | exact sb_k (by assumption) | exact tb_k (by assumption) | exact sb_li (by assumption) | exact sb_s (by assumption) | exact tb_n (by assumption) | exact fb_k (sb_f (by assumption))) (by first | rfl | assumption | exact lk6 (by assumption) _ | exact lk2 (by assumption) _ | exact fb_l0 (by assumption) | exact fb_l1 (by assumption) | exact sb_l0 (by assumption) | exact sb_l1 (by assumption) | exact sb_l2 (by assumption) | exact sb_l3 (by assumption) | exact tb_l0 (by assumption) | exact tb_l1 (by assumption) | exact tb_l2 (by assumption) | exact lk2 (sb_li (by assumption)) _ | exact fb_l0 (sb_f (by assumption)) | exact fb_l1 (sb_f (by assumption))) ?_
        refine rw_iload_n F dc_X8_judge_58 rfl ?_
        obtain ⟨hs7, hp⟩ := hp
        refine rw_aaSheet F dc_X8_judge_59 hs7 (fun hk8 => ?_)
        refine rw_getR F dc_X8_judge_60 fl_RX8_305 (by first | rfl | assumption | decide | exact r73_k (by assumption) | exact fb_k (by assumption) | exact sb_k (by assumption) | exact tb_k (by assumption) | exact sb_li (by assumption) | exact sb_s (by assumption) | exact tb_n (by assumption) | exact fb_k (sb_f (by assumption))) (by first | rfl | assumption | exact lk6 (by assumption) _ | exact lk2 (by assumption) _ | exact fb_l0 (by assumption) | exact fb_l1 (by assumption) | exact sb_l0 (by assumption) | exact sb_l1 (by assumption) | exact sb_l2 (by assumption) | exact sb_l3 (by assumption) | exact tb_l0 (by assumption) | exact tb_l1 (by assumption) | exact tb_l2 (by assumption) | exact lk2 (sb_li (by assumption)) _ | exact fb_l0 (sb_f (by assumption)) | exact fb_l1 (sb_f (by assumption))) ?_
        refine rw_iload_n F dc_X8_judge_63 rfl ?_
        obtain ⟨hs9, hp⟩ := hp
        refine rw_iaC F dc_X8_judge_64 (by first | rfl | assumption | decide | exact r73_k (by assumption) | exact fb_k (by assumption) | exact sb_k (by assumption) | exact tb_k (by assumption) | exact sb_li (by assumption) | exact sb_s (by assumption) | exact tb_n (by assumption) | exact fb_k (sb_f (by assumption))) (by first | rfl | exact r73_n (by assumption) | exact sb_sn (by assumption) | exact tb_nn (by assumption)) hs9 ?_
        refine rw_icmp_eq (tgt := 72) F dc_X8_judge_65 rfl (fun c10 => ?_) (fun c10 => ?_)
        · rw [if_pos c10] at hp
          refine rw_inc (n1 := 1) F dc_X8_judge_72 rfl rfl (by decide) rfl ?_
          refine rw_goto (tgt := 18) F dc_X8_judge_75 rfl ?_
          exact ih _ _ _ _ hp (by simpa only [if_neg c3, if_neg c4, if_pos c10] using hq)
        · rw [if_neg c10] at hp
          refine rw_iconst (v := 1) F dc_X8_judge_68 rfl ?_
          refine rw_iload_n F dc_X8_judge_69 rfl ?_
          refine rw_iadd F dc_X8_judge_70 ?_
          refine rw_iret F dc_X8_judge_71 rfl rfl ?_
          exact (by simpa only [if_neg c3, if_neg c4, if_neg c10] using hq)
theorem cr_X8_judge {E : tw_E}  {N : Nat}  {x1 : Int32} {τ : tw_T} (hp : p_X8_judge N x1 τ)  : tw_Ci E 3 mX8_judge [.ref 0, .int x1] τ (f_X8_judge N x1 τ) (g_X8_judge N x1 τ) := by
  unfold p_X8_judge at hp
  refine ct_of (by decide) (by simp [Value.category]) (Nat.le_of_ble_eq_true rfl) (fun K hE F => ?_)
  subst hE
  refine rw_aload_n F dc_X8_judge_0 rfl ?_
  refine rw_iload_n F dc_X8_judge_1 rfl ?_
  obtain ⟨hs1, hp⟩ := hp
  refine rw_cVi F [_] dc_X8_judge_2 mv_X8_troubleWith ml_RX8_228 (by decide) (rc_8 (by first | rfl | assumption | decide | exact r73_k (by assumption) | exact fb_k (by assumption) | exact sb_k (by assumption) | exact tb_k (by assumption) | exact sb_li (by assumption) | exact sb_s (by assumption) | exact tb_n (by assumption) | exact fb_k (sb_f (by assumption)))) rfl rfl (Nat.le_of_ble_eq_true rfl) (ct_X8_troubleWith hs1) ?_
  refine rw_istore_n F dc_X8_judge_5 (by decide) rfl ?_
  refine rw_iload_n F dc_X8_judge_6 rfl ?_
  refine rw_if_eq (tgt := 16) F dc_X8_judge_7 rfl (fun c2 => ?_) (fun c2 => ?_)
  · rw [if_pos c2] at hp
    refine rw_iconst (v := 0) F dc_X8_judge_16 rfl ?_
    refine rw_istore_n F dc_X8_judge_17 (by decide) rfl ?_
    exact lp_X8_judge_18 F  N N _ _ _ _ hp ⟨by first | (simp only [f_X8_judge, g_X8_judge, if_pos c2]; done) | rfl | (simp only [f_X8_judge, g_X8_judge, if_pos c2]; rfl), by first | (simp only [f_X8_judge, g_X8_judge, if_pos c2]; done) | rfl | (simp only [f_X8_judge, g_X8_judge, if_pos c2]; rfl)⟩
  · rw [if_neg c2] at hp
    refine rw_aload_n F dc_X8_judge_10 rfl ?_
    refine rw_iload_n F dc_X8_judge_11 rfl ?_
    refine rw_cVi F [_] dc_X8_judge_12 mv_X8_found ml_RX8_83 (by decide) (rc_8 (by first | rfl | assumption | decide | exact r73_k (by assumption) | exact fb_k (by assumption) | exact sb_k (by assumption) | exact tb_k (by assumption) | exact sb_li (by assumption) | exact sb_s (by assumption) | exact tb_n (by assumption) | exact fb_k (sb_f (by assumption)))) rfl rfl (Nat.le_of_ble_eq_true rfl) cn_X8_found ?_
    refine rw_iret F dc_X8_judge_15 rfl rfl ?_
    exact ⟨by first | (simp only [f_X8_judge, g_X8_judge, if_neg c2]; done) | rfl | (simp only [f_X8_judge, g_X8_judge, if_neg c2]; rfl), by first | (simp only [f_X8_judge, g_X8_judge, if_neg c2]; done) | rfl | (simp only [f_X8_judge, g_X8_judge, if_neg c2]; rfl)⟩
def f_X8_count (N : Nat)  (x1 : Int32) (τ : tw_T) : Int32 := if x1 = (0 : Int32) then (τ 2 4) else (if x1 = (1 : Int32) then (τ 3 1) else (if x1 = (2 : Int32) then (f_X1_strandedOfAll N 3 τ) else (if x1 = (3 : Int32) then (f_X1_sawOfAll N 3 τ) else (if x1 = (4 : Int32) then (τ 2 3) else (if x1 = (5 : Int32) then (τ 27 1) else (if x1 = (6 : Int32) then (τ 1 3) else (if x1 = (7 : Int32) then (f_X4_spotsTaken N 1 τ) else ((-1000001)))))))))
def g_X8_count (N : Nat)  (x1 : Int32) (τ : tw_T) : tw_T := if x1 = (0 : Int32) then τ else (if x1 = (1 : Int32) then τ else (if x1 = (2 : Int32) then τ else (if x1 = (3 : Int32) then τ else (if x1 = (4 : Int32) then τ else (if x1 = (5 : Int32) then τ else (if x1 = (6 : Int32) then τ else (if x1 = (7 : Int32) then τ else (g_X8_found ((-1000001)) τ))))))))
def p_X8_count (N : Nat)  (x1 : Int32) (τ : tw_T) : Prop := if x1 = (0 : Int32) then True else (if x1 = (1 : Int32) then True else (if x1 = (2 : Int32) then (p_X1_strandedOfAll N 3 τ ∧ True) else (if x1 = (3 : Int32) then (p_X1_sawOfAll N 3 τ ∧ True) else (if x1 = (4 : Int32) then True else (if x1 = (5 : Int32) then True else (if x1 = (6 : Int32) then True else (if x1 = (7 : Int32) then (p_X4_spotsTaken N 1 τ ∧ True) else True)))))))
theorem ct_X8_count {E : tw_E}  {N : Nat}  {x1 : Int32} {τ : tw_T} (hp : p_X8_count N x1 τ)  : tw_Ci E 3 mX8_count [.ref 0, .int x1] τ (f_X8_count N x1 τ) (g_X8_count N x1 τ) := by
  unfold p_X8_count at hp
  refine ct_of (by decide) (by simp [Value.category]) (Nat.le_of_ble_eq_true rfl) (fun K hE F => ?_)
  subst hE
  refine rw_iload_n F dc_X8_count_0 rfl ?_
  refine rw_tswc (0) 0 48 F dc_X8_count_1 rfl rfl rfl (by decide) (fun c1_0 => ?_) (fun c1_0 => ?_)
  · rw [if_pos c1_0] at hp
    refine rw_aload_n F dc_X8_count_48 rfl ?_
    refine rw_getR F dc_X8_count_49 fl_RX8_12 (by first | rfl | assumption | decide | exact r73_k (by assumption) | exact fb_k (by assumption) | exact sb_k (by assumption) | exact tb_k (by assumption) | exact sb_li (by assumption) | exact sb_s (by assumption) | exact tb_n (by assumption) | exact fb_k (sb_f (by assumption))) (by first | rfl | assumption | exact lk6 (by assumption) _ | exact lk2 (by assumption) _ | exact fb_l0 (by assumption) | exact fb_l1 (by assumption) | exact sb_l0 (by assumption) | exact sb_l1 (by assumption) | exact sb_l2 (by assumption) | exact sb_l3 (by assumption) | exact tb_l0 (by assumption) | exact tb_l1 (by assumption) | exact tb_l2 (by assumption) | exact lk2 (sb_li (by assumption)) _ | exact fb_l0 (sb_f (by assumption)) | exact fb_l1 (sb_f (by assumption))) ?_
    refine rw_getR F dc_X8_count_52 fl_RX8_87 (by first | rfl | assumption | decide | exact r73_k (by assumption) | exact fb_k (by assumption) | exact sb_k (by assumption) | exact tb_k (by assumption) | exact sb_li (by assumption) | exact sb_s (by assumption) | exact tb_n (by assumption) | exact fb_k (sb_f (by assumption))) (by first | rfl | assumption | exact lk6 (by assumption) _ | exact lk2 (by assumption) _ | exact fb_l0 (by assumption) | exact fb_l1 (by assumption) | exact sb_l0 (by assumption) | exact sb_l1 (by assumption) | exact sb_l2 (by assumption) | exact sb_l3 (by assumption) | exact tb_l0 (by assumption) | exact tb_l1 (by assumption) | exact tb_l2 (by assumption) | exact lk2 (sb_li (by assumption)) _ | exact fb_l0 (sb_f (by assumption)) | exact fb_l1 (sb_f (by assumption))) ?_
    refine rw_getI F dc_X8_count_55 fl_RX8_127 (by first | rfl | assumption | decide | exact r73_k (by assumption) | exact fb_k (by assumption) | exact sb_k (by assumption) | exact tb_k (by assumption) | exact sb_li (by assumption) | exact sb_s (by assumption) | exact tb_n (by assumption) | exact fb_k (sb_f (by assumption))) (by first | rfl | assumption | exact lk6 (by assumption) _ | exact lk2 (by assumption) _ | exact fb_l0 (by assumption) | exact fb_l1 (by assumption) | exact sb_l0 (by assumption) | exact sb_l1 (by assumption) | exact sb_l2 (by assumption) | exact sb_l3 (by assumption) | exact tb_l0 (by assumption) | exact tb_l1 (by assumption) | exact tb_l2 (by assumption) | exact lk2 (sb_li (by assumption)) _ | exact fb_l0 (sb_f (by assumption)) | exact fb_l1 (sb_f (by assumption))) ?_
    refine rw_iret F dc_X8_count_58 rfl rfl ?_
    exact ⟨by first | (simp only [f_X8_count, g_X8_count, if_pos c1_0]; done) | rfl | (simp only [f_X8_count, g_X8_count, if_pos c1_0]; rfl), by first | (simp only [f_X8_count, g_X8_count, if_pos c1_0]; done) | rfl | (simp only [f_X8_count, g_X8_count, if_pos c1_0]; rfl)⟩
  rw [if_neg c1_0] at hp
  refine rw_tswc (1) 1 59 F dc_X8_count_1 rfl rfl rfl (by decide) (fun c1_1 => ?_) (fun c1_1 => ?_)
  · rw [if_pos c1_1] at hp
    refine rw_aload_n F dc_X8_count_59 rfl ?_
    refine rw_getR F dc_X8_count_60 fl_RX8_12 (by first | rfl | assumption | decide | exact r73_k (by assumption) | exact fb_k (by assumption) | exact sb_k (by assumption) | exact tb_k (by assumption) | exact sb_li (by assumption) | exact sb_s (by assumption) | exact tb_n (by assumption) | exact fb_k (sb_f (by assumption))) (by first | rfl | assumption | exact lk6 (by assumption) _ | exact lk2 (by assumption) _ | exact fb_l0 (by assumption) | exact fb_l1 (by assumption) | exact sb_l0 (by assumption) | exact sb_l1 (by assumption) | exact sb_l2 (by assumption) | exact sb_l3 (by assumption) | exact tb_l0 (by assumption) | exact tb_l1 (by assumption) | exact tb_l2 (by assumption) | exact lk2 (sb_li (by assumption)) _ | exact fb_l0 (sb_f (by assumption)) | exact fb_l1 (sb_f (by assumption))) ?_
    refine rw_getR F dc_X8_count_63 fl_RX8_101 (by first | rfl | assumption | decide | exact r73_k (by assumption) | exact fb_k (by assumption) | exact sb_k (by assumption) | exact tb_k (by assumption) | exact sb_li (by assumption) | exact sb_s (by assumption) | exact tb_n (by assumption) | exact fb_k (sb_f (by assumption))) (by first | rfl | assumption | exact lk6 (by assumption) _ | exact lk2 (by assumption) _ | exact fb_l0 (by assumption) | exact fb_l1 (by assumption) | exact sb_l0 (by assumption) | exact sb_l1 (by assumption) | exact sb_l2 (by assumption) | exact sb_l3 (by assumption) | exact tb_l0 (by assumption) | exact tb_l1 (by assumption) | exact tb_l2 (by assumption) | exact lk2 (sb_li (by assumption)) _ | exact fb_l0 (sb_f (by assumption)) | exact fb_l1 (sb_f (by assumption))) ?_
    refine rw_getI F dc_X8_count_66 fl_RX8_115 (by first | rfl | assumption | decide | exact r73_k (by assumption) | exact fb_k (by assumption) | exact sb_k (by assumption) | exact tb_k (by assumption) | exact sb_li (by assumption) | exact sb_s (by assumption) | exact tb_n (by assumption) | exact fb_k (sb_f (by assumption))) (by first | rfl | assumption | exact lk6 (by assumption) _ | exact lk2 (by assumption) _ | exact fb_l0 (by assumption) | exact fb_l1 (by assumption) | exact sb_l0 (by assumption) | exact sb_l1 (by assumption) | exact sb_l2 (by assumption) | exact sb_l3 (by assumption) | exact tb_l0 (by assumption) | exact tb_l1 (by assumption) | exact tb_l2 (by assumption) | exact lk2 (sb_li (by assumption)) _ | exact fb_l0 (sb_f (by assumption)) | exact fb_l1 (sb_f (by assumption))) ?_
    refine rw_iret F dc_X8_count_69 rfl rfl ?_
    exact ⟨by first | (simp only [f_X8_count, g_X8_count, if_neg c1_0, if_pos c1_1]; done) | rfl | (simp only [f_X8_count, g_X8_count, if_neg c1_0, if_pos c1_1]; rfl), by first | (simp only [f_X8_count, g_X8_count, if_neg c1_0, if_pos c1_1]; done) | rfl | (simp only [f_X8_count, g_X8_count, if_neg c1_0, if_pos c1_1]; rfl)⟩
  rw [if_neg c1_1] at hp
  refine rw_tswc (2) 2 70 F dc_X8_count_1 rfl rfl rfl (by decide) (fun c1_2 => ?_) (fun c1_2 => ?_)
  · rw [if_pos c1_2] at hp
    refine rw_aload_n F dc_X8_count_70 rfl ?_
    refine rw_getR F dc_X8_count_71 fl_RX8_12 (by first | rfl | assumption | decide | exact r73_k (by assumption) | exact fb_k (by assumption) | exact sb_k (by assumption) | exact tb_k (by assumption) | exact sb_li (by assumption) | exact sb_s (by assumption) | exact tb_n (by assumption) | exact fb_k (sb_f (by assumption))) (by first | rfl | assumption | exact lk6 (by assumption) _ | exact lk2 (by assumption) _ | exact fb_l0 (by assumption) | exact fb_l1 (by assumption) | exact sb_l0 (by assumption) | exact sb_l1 (by assumption) | exact sb_l2 (by assumption) | exact sb_l3 (by assumption) | exact tb_l0 (by assumption) | exact tb_l1 (by assumption) | exact tb_l2 (by assumption) | exact lk2 (sb_li (by assumption)) _ | exact fb_l0 (sb_f (by assumption)) | exact fb_l1 (sb_f (by assumption))) ?_
    refine rw_getR F dc_X8_count_74 fl_RX8_101 (by first | rfl | assumption | decide | exact r73_k (by assumption) | exact fb_k (by assumption) | exact sb_k (by assumption) | exact tb_k (by assumption) | exact sb_li (by assumption) | exact sb_s (by assumption) | exact tb_n (by assumption) | exact fb_k (sb_f (by assumption))) (by first | rfl | assumption | exact lk6 (by assumption) _ | exact lk2 (by assumption) _ | exact fb_l0 (by assumption) | exact fb_l1 (by assumption) | exact sb_l0 (by assumption) | exact sb_l1 (by assumption) | exact sb_l2 (by assumption) | exact sb_l3 (by assumption) | exact tb_l0 (by assumption) | exact tb_l1 (by assumption) | exact tb_l2 (by assumption) | exact lk2 (sb_li (by assumption)) _ | exact fb_l0 (sb_f (by assumption)) | exact fb_l1 (sb_f (by assumption))) ?_
    obtain ⟨hs2, hp⟩ := hp
    refine rw_cVi F [] dc_X8_count_77 mv_X1_strandedOfAll ml_RX8_151 (by decide) (rc_1 (by first | rfl | assumption | decide | exact r73_k (by assumption) | exact fb_k (by assumption) | exact sb_k (by assumption) | exact tb_k (by assumption) | exact sb_li (by assumption) | exact sb_s (by assumption) | exact tb_n (by assumption) | exact fb_k (sb_f (by assumption)))) rfl rfl (Nat.le_of_ble_eq_true rfl) (cr_X1_strandedOfAll hs2) ?_
    refine rw_iret F dc_X8_count_80 rfl rfl ?_
    exact ⟨by first | (simp only [f_X8_count, g_X8_count, if_neg c1_0, if_neg c1_1, if_pos c1_2]; done) | rfl | (simp only [f_X8_count, g_X8_count, if_neg c1_0, if_neg c1_1, if_pos c1_2]; rfl), by first | (simp only [f_X8_count, g_X8_count, if_neg c1_0, if_neg c1_1, if_pos c1_2]; done) | rfl | (simp only [f_X8_count, g_X8_count, if_neg c1_0, if_neg c1_1, if_pos c1_2]; rfl)⟩
  rw [if_neg c1_2] at hp
  refine rw_tswc (3) 3 81 F dc_X8_count_1 rfl rfl rfl (by decide) (fun c1_3 => ?_) (fun c1_3 => ?_)
  · rw [if_pos c1_3] at hp
    refine rw_aload_n F dc_X8_count_81 rfl ?_
    refine rw_getR F dc_X8_count_82 fl_RX8_12 (by first | rfl | assumption | decide | exact r73_k (by assumption) | exact fb_k (by assumption) | exact sb_k (by assumption) | exact tb_k (by assumption) | exact sb_li (by assumption) | exact sb_s (by assumption) | exact tb_n (by assumption) | exact fb_k (sb_f (by assumption))) (by first | rfl | assumption | exact lk6 (by assumption) _ | exact lk2 (by assumption) _ | exact fb_l0 (by assumption) | exact fb_l1 (by assumption) | exact sb_l0 (by assumption) | exact sb_l1 (by assumption) | exact sb_l2 (by assumption) | exact sb_l3 (by assumption) | exact tb_l0 (by assumption) | exact tb_l1 (by assumption) | exact tb_l2 (by assumption) | exact lk2 (sb_li (by assumption)) _ | exact fb_l0 (sb_f (by assumption)) | exact fb_l1 (sb_f (by assumption))) ?_
    refine rw_getR F dc_X8_count_85 fl_RX8_101 (by first | rfl | assumption | decide | exact r73_k (by assumption) | exact fb_k (by assumption) | exact sb_k (by assumption) | exact tb_k (by assumption) | exact sb_li (by assumption) | exact sb_s (by assumption) | exact tb_n (by assumption) | exact fb_k (sb_f (by assumption))) (by first | rfl | assumption | exact lk6 (by assumption) _ | exact lk2 (by assumption) _ | exact fb_l0 (by assumption) | exact fb_l1 (by assumption) | exact sb_l0 (by assumption) | exact sb_l1 (by assumption) | exact sb_l2 (by assumption) | exact sb_l3 (by assumption) | exact tb_l0 (by assumption) | exact tb_l1 (by assumption) | exact tb_l2 (by assumption) | exact lk2 (sb_li (by assumption)) _ | exact fb_l0 (sb_f (by assumption)) | exact fb_l1 (sb_f (by assumption))) ?_
    obtain ⟨hs3, hp⟩ := hp
    refine rw_cVi F [] dc_X8_count_88 mv_X1_sawOfAll ml_RX8_155 (by decide) (rc_1 (by first | rfl | assumption | decide | exact r73_k (by assumption) | exact fb_k (by assumption) | exact sb_k (by assumption) | exact tb_k (by assumption) | exact sb_li (by assumption) | exact sb_s (by assumption) | exact tb_n (by assumption) | exact fb_k (sb_f (by assumption)))) rfl rfl (Nat.le_of_ble_eq_true rfl) (cr_X1_sawOfAll hs3) ?_
    refine rw_iret F dc_X8_count_91 rfl rfl ?_
    exact ⟨by first | (simp only [f_X8_count, g_X8_count, if_neg c1_0, if_neg c1_1, if_neg c1_2, if_pos c1_3]; done) | rfl | (simp only [f_X8_count, g_X8_count, if_neg c1_0, if_neg c1_1, if_neg c1_2, if_pos c1_3]; rfl), by first | (simp only [f_X8_count, g_X8_count, if_neg c1_0, if_neg c1_1, if_neg c1_2, if_pos c1_3]; done) | rfl | (simp only [f_X8_count, g_X8_count, if_neg c1_0, if_neg c1_1, if_neg c1_2, if_pos c1_3]; rfl)⟩
  rw [if_neg c1_3] at hp
  refine rw_tswc (4) 4 92 F dc_X8_count_1 rfl rfl rfl (by decide) (fun c1_4 => ?_) (fun c1_4 => ?_)
  · rw [if_pos c1_4] at hp
    refine rw_aload_n F dc_X8_count_92 rfl ?_
    refine rw_getR F dc_X8_count_93 fl_RX8_12 (by first | rfl | assumption | decide | exact r73_k (by assumption) | exact fb_k (by assumption) | exact sb_k (by assumption) | exact tb_k (by assumption) | exact sb_li (by assumption) | exact sb_s (by assumption) | exact tb_n (by assumption) | exact fb_k (sb_f (by assumption))) (by first | rfl | assumption | exact lk6 (by assumption) _ | exact lk2 (by assumption) _ | exact fb_l0 (by assumption) | exact fb_l1 (by assumption) | exact sb_l0 (by assumption) | exact sb_l1 (by assumption) | exact sb_l2 (by assumption) | exact sb_l3 (by assumption) | exact tb_l0 (by assumption) | exact tb_l1 (by assumption) | exact tb_l2 (by assumption) | exact lk2 (sb_li (by assumption)) _ | exact fb_l0 (sb_f (by assumption)) | exact fb_l1 (sb_f (by assumption))) ?_
    refine rw_getR F dc_X8_count_96 fl_RX8_87 (by first | rfl | assumption | decide | exact r73_k (by assumption) | exact fb_k (by assumption) | exact sb_k (by assumption) | exact tb_k (by assumption) | exact sb_li (by assumption) | exact sb_s (by assumption) | exact tb_n (by assumption) | exact fb_k (sb_f (by assumption))) (by first | rfl | assumption | exact lk6 (by assumption) _ | exact lk2 (by assumption) _ | exact fb_l0 (by assumption) | exact fb_l1 (by assumption) | exact sb_l0 (by assumption) | exact sb_l1 (by assumption) | exact sb_l2 (by assumption) | exact sb_l3 (by assumption) | exact tb_l0 (by assumption) | exact tb_l1 (by assumption) | exact tb_l2 (by assumption) | exact lk2 (sb_li (by assumption)) _ | exact fb_l0 (sb_f (by assumption)) | exact fb_l1 (sb_f (by assumption))) ?_
    refine rw_getI F dc_X8_count_99 fl_RX8_167 (by first | rfl | assumption | decide | exact r73_k (by assumption) | exact fb_k (by assumption) | exact sb_k (by assumption) | exact tb_k (by assumption) | exact sb_li (by assumption) | exact sb_s (by assumption) | exact tb_n (by assumption) | exact fb_k (sb_f (by assumption))) (by first | rfl | assumption | exact lk6 (by assumption) _ | exact lk2 (by assumption) _ | exact fb_l0 (by assumption) | exact fb_l1 (by assumption) | exact sb_l0 (by assumption) | exact sb_l1 (by assumption) | exact sb_l2 (by assumption) | exact sb_l3 (by assumption) | exact tb_l0 (by assumption) | exact tb_l1 (by assumption) | exact tb_l2 (by assumption) | exact lk2 (sb_li (by assumption)) _ | exact fb_l0 (sb_f (by assumption)) | exact fb_l1 (sb_f (by assumption))) ?_
    refine rw_iret F dc_X8_count_102 rfl rfl ?_
    exact ⟨by first | (simp only [f_X8_count, g_X8_count, if_neg c1_0, if_neg c1_1, if_neg c1_2, if_neg c1_3, if_pos c1_4]; done) | rfl | (simp only [f_X8_count, g_X8_count, if_neg c1_0, if_neg c1_1, if_neg c1_2, if_neg c1_3, if_pos c1_4]; rfl), by first | (simp only [f_X8_count, g_X8_count, if_neg c1_0, if_neg c1_1, if_neg c1_2, if_neg c1_3, if_pos c1_4]; done) | rfl | (simp only [f_X8_count, g_X8_count, if_neg c1_0, if_neg c1_1, if_neg c1_2, if_neg c1_3, if_pos c1_4]; rfl)⟩
  rw [if_neg c1_4] at hp
  refine rw_tswc (5) 5 103 F dc_X8_count_1 rfl rfl rfl (by decide) (fun c1_5 => ?_) (fun c1_5 => ?_)
  · rw [if_pos c1_5] at hp
    refine rw_aload_n F dc_X8_count_103 rfl ?_
    refine rw_getR F dc_X8_count_104 fl_RX8_26 (by first | rfl | assumption | decide | exact r73_k (by assumption) | exact fb_k (by assumption) | exact sb_k (by assumption) | exact tb_k (by assumption) | exact sb_li (by assumption) | exact sb_s (by assumption) | exact tb_n (by assumption) | exact fb_k (sb_f (by assumption))) (by first | rfl | assumption | exact lk6 (by assumption) _ | exact lk2 (by assumption) _ | exact fb_l0 (by assumption) | exact fb_l1 (by assumption) | exact sb_l0 (by assumption) | exact sb_l1 (by assumption) | exact sb_l2 (by assumption) | exact sb_l3 (by assumption) | exact tb_l0 (by assumption) | exact tb_l1 (by assumption) | exact tb_l2 (by assumption) | exact lk2 (sb_li (by assumption)) _ | exact fb_l0 (sb_f (by assumption)) | exact fb_l1 (sb_f (by assumption))) ?_
    refine rw_getI F dc_X8_count_107 fl_RX8_268 (by first | rfl | assumption | decide | exact r73_k (by assumption) | exact fb_k (by assumption) | exact sb_k (by assumption) | exact tb_k (by assumption) | exact sb_li (by assumption) | exact sb_s (by assumption) | exact tb_n (by assumption) | exact fb_k (sb_f (by assumption))) (by first | rfl | assumption | exact lk6 (by assumption) _ | exact lk2 (by assumption) _ | exact fb_l0 (by assumption) | exact fb_l1 (by assumption) | exact sb_l0 (by assumption) | exact sb_l1 (by assumption) | exact sb_l2 (by assumption) | exact sb_l3 (by assumption) | exact tb_l0 (by assumption) | exact tb_l1 (by assumption) | exact tb_l2 (by assumption) | exact lk2 (sb_li (by assumption)) _ | exact fb_l0 (sb_f (by assumption)) | exact fb_l1 (sb_f (by assumption))) ?_
    refine rw_iret F dc_X8_count_110 rfl rfl ?_
    exact ⟨by first | (simp only [f_X8_count, g_X8_count, if_neg c1_0, if_neg c1_1, if_neg c1_2, if_neg c1_3, if_neg c1_4, if_pos c1_5]; done) | rfl | (simp only [f_X8_count, g_X8_count, if_neg c1_0, if_neg c1_1, if_neg c1_2, if_neg c1_3, if_neg c1_4, if_pos c1_5]; rfl), by first | (simp only [f_X8_count, g_X8_count, if_neg c1_0, if_neg c1_1, if_neg c1_2, if_neg c1_3, if_neg c1_4, if_pos c1_5]; done) | rfl | (simp only [f_X8_count, g_X8_count, if_neg c1_0, if_neg c1_1, if_neg c1_2, if_neg c1_3, if_neg c1_4, if_pos c1_5]; rfl)⟩
  rw [if_neg c1_5] at hp
  refine rw_tswc (6) 6 111 F dc_X8_count_1 rfl rfl rfl (by decide) (fun c1_6 => ?_) (fun c1_6 => ?_)
  · rw [if_pos c1_6] at hp
    refine rw_aload_n F dc_X8_count_111 rfl ?_
    refine rw_getR F dc_X8_count_112 fl_RX8_12 (by first | rfl | assumption | decide | exact r73_k (by assumption) | exact fb_k (by assumption) | exact sb_k (by assumption) | exact tb_k (by assumption) | exact sb_li (by assumption) | exact sb_s (by assumption) | exact tb_n (by assumption) | exact fb_k (sb_f (by assumption))) (by first | rfl | assumption | exact lk6 (by assumption) _ | exact lk2 (by assumption) _ | exact fb_l0 (by assumption) | exact fb_l1 (by assumption) | exact sb_l0 (by assumption) | exact sb_l1 (by assumption) | exact sb_l2 (by assumption) | exact sb_l3 (by assumption) | exact tb_l0 (by assumption) | exact tb_l1 (by assumption) | exact tb_l2 (by assumption) | exact lk2 (sb_li (by assumption)) _ | exact fb_l0 (sb_f (by assumption)) | exact fb_l1 (sb_f (by assumption))) ?_
    refine rw_getI F dc_X8_count_115 fl_RX8_265 (by first | rfl | assumption | decide | exact r73_k (by assumption) | exact fb_k (by assumption) | exact sb_k (by assumption) | exact tb_k (by assumption) | exact sb_li (by assumption) | exact sb_s (by assumption) | exact tb_n (by assumption) | exact fb_k (sb_f (by assumption))) (by first | rfl | assumption | exact lk6 (by assumption) _ | exact lk2 (by assumption) _ | exact fb_l0 (by assumption) | exact fb_l1 (by assumption) | exact sb_l0 (by assumption) | exact sb_l1 (by assumption) | exact sb_l2 (by assumption) | exact sb_l3 (by assumption) | exact tb_l0 (by assumption) | exact tb_l1 (by assumption) | exact tb_l2 (by assumption) | exact lk2 (sb_li (by assumption)) _ | exact fb_l0 (sb_f (by assumption)) | exact fb_l1 (sb_f (by assumption))) ?_
    refine rw_iret F dc_X8_count_118 rfl rfl ?_
    exact ⟨by first | (simp only [f_X8_count, g_X8_count, if_neg c1_0, if_neg c1_1, if_neg c1_2, if_neg c1_3, if_neg c1_4, if_neg c1_5, if_pos c1_6]; done) | rfl | (simp only [f_X8_count, g_X8_count, if_neg c1_0, if_neg c1_1, if_neg c1_2, if_neg c1_3, if_neg c1_4, if_neg c1_5, if_pos c1_6]; rfl), by first | (simp only [f_X8_count, g_X8_count, if_neg c1_0, if_neg c1_1, if_neg c1_2, if_neg c1_3, if_neg c1_4, if_neg c1_5, if_pos c1_6]; done) | rfl | (simp only [f_X8_count, g_X8_count, if_neg c1_0, if_neg c1_1, if_neg c1_2, if_neg c1_3, if_neg c1_4, if_neg c1_5, if_pos c1_6]; rfl)⟩
  rw [if_neg c1_6] at hp
  refine rw_tswc (7) 7 119 F dc_X8_count_1 rfl rfl rfl (by decide) (fun c1_7 => ?_) (fun c1_7 => ?_)
  · rw [if_pos c1_7] at hp
    refine rw_aload_n F dc_X8_count_119 rfl ?_
    refine rw_getR F dc_X8_count_120 fl_RX8_12 (by first | rfl | assumption | decide | exact r73_k (by assumption) | exact fb_k (by assumption) | exact sb_k (by assumption) | exact tb_k (by assumption) | exact sb_li (by assumption) | exact sb_s (by assumption) | exact tb_n (by assumption) | exact fb_k (sb_f (by assumption))) (by first | rfl | assumption | exact lk6 (by assumption) _ | exact lk2 (by assumption) _ | exact fb_l0 (by assumption) | exact fb_l1 (by assumption) | exact sb_l0 (by assumption) | exact sb_l1 (by assumption) | exact sb_l2 (by assumption) | exact sb_l3 (by assumption) | exact tb_l0 (by assumption) | exact tb_l1 (by assumption) | exact tb_l2 (by assumption) | exact lk2 (sb_li (by assumption)) _ | exact fb_l0 (sb_f (by assumption)) | exact fb_l1 (sb_f (by assumption))) ?_
    obtain ⟨hs4, hp⟩ := hp
    refine rw_cVi F [] dc_X8_count_123 mv_X4_spotsTaken ml_RX8_317 (by decide) (rc_4 (by first | rfl | assumption | decide | exact r73_k (by assumption) | exact fb_k (by assumption) | exact sb_k (by assumption) | exact tb_k (by assumption) | exact sb_li (by assumption) | exact sb_s (by assumption) | exact tb_n (by assumption) | exact fb_k (sb_f (by assumption)))) rfl rfl (Nat.le_of_ble_eq_true rfl) (cr_X4_spotsTaken hs4) ?_
    refine rw_iret F dc_X8_count_126 rfl rfl ?_
    exact ⟨by first | (simp only [f_X8_count, g_X8_count, if_neg c1_0, if_neg c1_1, if_neg c1_2, if_neg c1_3, if_neg c1_4, if_neg c1_5, if_neg c1_6, if_pos c1_7]; done) | rfl | (simp only [f_X8_count, g_X8_count, if_neg c1_0, if_neg c1_1, if_neg c1_2, if_neg c1_3, if_neg c1_4, if_neg c1_5, if_neg c1_6, if_pos c1_7]; rfl), by first | (simp only [f_X8_count, g_X8_count, if_neg c1_0, if_neg c1_1, if_neg c1_2, if_neg c1_3, if_neg c1_4, if_neg c1_5, if_neg c1_6, if_pos c1_7]; done) | rfl | (simp only [f_X8_count, g_X8_count, if_neg c1_0, if_neg c1_1, if_neg c1_2, if_neg c1_3, if_neg c1_4, if_neg c1_5, if_neg c1_6, if_pos c1_7]; rfl)⟩
  rw [if_neg c1_7] at hp
  refine rw_tsw F dc_X8_count_1 127 (Or.inl ⟨by have h0 := lv_neT c1_0 (a := 0) (by decide); have h1 := lv_neT c1_1 (a := 1) (by decide); have h2 := lv_neT c1_2 (a := 2) (by decide); have h3 := lv_neT c1_3 (a := 3) (by decide); have h4 := lv_neT c1_4 (a := 4) (by decide); have h5 := lv_neT c1_5 (a := 5) (by decide); have h6 := lv_neT c1_6 (a := 6) (by decide); have h7 := lv_neT c1_7 (a := 7) (by decide); omega, rfl⟩) ?_
  refine rw_aload_n F dc_X8_count_127 rfl ?_
  refine rw_ldc F dc_X8_count_128 kc_RX8_82 ?_
  refine rw_cVi F [_] dc_X8_count_130 mv_X8_found ml_RX8_83 (by decide) (rc_8 (by first | rfl | assumption | decide | exact r73_k (by assumption) | exact fb_k (by assumption) | exact sb_k (by assumption) | exact tb_k (by assumption) | exact sb_li (by assumption) | exact sb_s (by assumption) | exact tb_n (by assumption) | exact fb_k (sb_f (by assumption)))) rfl rfl (Nat.le_of_ble_eq_true rfl) cn_X8_found ?_
  refine rw_iret F dc_X8_count_133 rfl rfl ?_
  exact ⟨by first | (simp only [f_X8_count, g_X8_count, if_neg c1_0, if_neg c1_1, if_neg c1_2, if_neg c1_3, if_neg c1_4, if_neg c1_5, if_neg c1_6, if_neg c1_7]; done) | rfl | (simp only [f_X8_count, g_X8_count, if_neg c1_0, if_neg c1_1, if_neg c1_2, if_neg c1_3, if_neg c1_4, if_neg c1_5, if_neg c1_6, if_neg c1_7]; rfl), by first | (simp only [f_X8_count, g_X8_count, if_neg c1_0, if_neg c1_1, if_neg c1_2, if_neg c1_3, if_neg c1_4, if_neg c1_5, if_neg c1_6, if_neg c1_7]; done) | rfl | (simp only [f_X8_count, g_X8_count, if_neg c1_0, if_neg c1_1, if_neg c1_2, if_neg c1_3, if_neg c1_4, if_neg c1_5, if_neg c1_6, if_neg c1_7]; rfl)⟩
def lf_X8_status_32 (N : Nat)  : Nat → Int32 → Int32 → Int32 → tw_T → Int32
  | 0, _, _, _, _ => 0
  | n + 1, x1, x2, x3, τ => if (7 : Int32) ≤ x3 then x2 else (lf_X8_status_32 N n x1 (x2 + (τ 30 x3.toNatClampNeg)) (x3 + 1) τ)
def lg_X8_status_32 (N : Nat)  : Nat → Int32 → Int32 → Int32 → tw_T → tw_T
  | 0, _, _, _, τ => τ
  | n + 1, x1, x2, x3, τ => if (7 : Int32) ≤ x3 then τ else (lg_X8_status_32 N n x1 (x2 + (τ 30 x3.toNatClampNeg)) (x3 + 1) τ)
def lo_X8_status_32 (N : Nat)  : Nat → Int32 → Int32 → Int32 → tw_T → Prop
  | 0, _, _, _, _ => False
  | n + 1, x1, x2, x3, τ => if (7 : Int32) ≤ x3 then True else (vp_in x3 7 ∧ (lo_X8_status_32 N n x1 (x2 + (τ 30 x3.toNatClampNeg)) (x3 + 1) τ))
def f_X8_status (N : Nat)  (x1 : Int32) (τ : tw_T) : Int32 := if (f_X8_within x1 ((-1)) 6 τ) = (0 : Int32) then ((-1000001)) else (if x1 < (0 : Int32) then (lf_X8_status_32 N N x1 0 0 τ) else (τ 30 x1.toNatClampNeg))
def g_X8_status (N : Nat)  (x1 : Int32) (τ : tw_T) : tw_T := if (f_X8_within x1 ((-1)) 6 τ) = (0 : Int32) then (g_X8_found ((-1000001)) τ) else (if x1 < (0 : Int32) then (lg_X8_status_32 N N x1 0 0 τ) else τ)
def p_X8_status (N : Nat)  (x1 : Int32) (τ : tw_T) : Prop := if (f_X8_within x1 ((-1)) 6 τ) = (0 : Int32) then True else (if x1 < (0 : Int32) then (lo_X8_status_32 N N x1 0 0 τ) else (vp_in x1 7 ∧ True))
theorem lp_X8_status_32 {K : tw_K} {Q : Option Value → tw_T → Prop} (F : tw_F K mX8_status 3 Q)   (N : Nat)  : ∀ (n : Nat) (x1 : Int32) (x2 : Int32) (x3 : Int32) (τ : tw_T), lo_X8_status_32 N n x1 x2 x3 τ → Q (some (.int (lf_X8_status_32 N n x1 x2 x3 τ))) (lg_X8_status_32 N n x1 x2 x3 τ) → tw_R K 32 [.ref 0, .int x1, .int x2, .int x3] [] τ := by
  intro n
  induction n with
  | zero => intro x1 x2 x3 τ hp _; exact False.elim hp
  | succ n ih =>
    intro x1 x2 x3 τ hp hq
    simp only [lo_X8_status_32] at hp
    simp only [lf_X8_status_32, lg_X8_status_32] at hq
    refine rw_iload_n F dc_X8_status_32 rfl ?_
    refine rw_bipush (v := 7) F dc_X8_status_33 rfl ?_
    refine rw_icmp_ge (tgt := 53) F dc_X8_status_35 rfl (fun c1 => ?_) (fun c1 => ?_)
    · rw [if_pos c1] at hp
      refine rw_iload_n F dc_X8_status_53 rfl ?_
      refine rw_iret F dc_X8_status_54 rfl rfl ?_
      exact (by simpa only [if_pos c1] using hq)
    · rw [if_neg c1] at hp
      refine rw_iload_n F dc_X8_status_38 rfl ?_
      refine rw_aload_n F dc_X8_status_39 rfl ?_
      refine rw_getR F dc_X8_status_40 fl_RX8_36 (by first | rfl | assumption | decide | exact r73_k (by assumption) | exact fb_k (by assumption) | exact sb_k (by assumption) | exact tb_k (by assumption) | exact sb_li (by assumption) | exact sb_s (by assumption) | exact tb_n (by assumption) | exact fb_k (sb_f (by assumption))) (by first | rfl | assumption | exact lk6 (by assumption) _ | exact lk2 (by assumption) _ | exact fb_l0 (by assumption) | exact fb_l1 (by assumption) | exact sb_l0 (by assumption) | exact sb_l1 (by assumption) | exact sb_l2 (by assumption) | exact sb_l3 (by assumption) | exact tb_l0 (by assumption) | exact tb_l1 (by assumption) | exact tb_l2 (by assumption) | exact lk2 (sb_li (by assumption)) _ | exact fb_l0 (sb_f (by assumption)) | exact fb_l1 (sb_f (by assumption))) ?_
      refine rw_iload_n F dc_X8_status_43 rfl ?_
      obtain ⟨hs2, hp⟩ := hp
      refine rw_iaC F dc_X8_status_44 (by first | rfl | assumption | decide | exact r73_k (by assumption) | exact fb_k (by assumption) | exact sb_k (by assumption) | exact tb_k (by assumption) | exact sb_li (by assumption) | exact sb_s (by assumption) | exact tb_n (by assumption) | exact fb_k (sb_f (by assumption))) (by first | rfl | exact r73_n (by assumption) | exact sb_sn (by assumption) | exact tb_nn (by assumption)) hs2 ?_
      refine rw_iadd F dc_X8_status_45 ?_
      refine rw_istore_n F dc_X8_status_46 (by decide) rfl ?_
      refine rw_inc (n1 := 1) F dc_X8_status_47 rfl rfl (by decide) rfl ?_
      refine rw_goto (tgt := 32) F dc_X8_status_50 rfl ?_
      exact ih _ _ _ _ hp (by simpa only [if_neg c1] using hq)
theorem cr_X8_status {E : tw_E}  {N : Nat}  {x1 : Int32} {τ : tw_T} (hp : p_X8_status N x1 τ)  : tw_Ci E 3 mX8_status [.ref 0, .int x1] τ (f_X8_status N x1 τ) (g_X8_status N x1 τ) := by
  unfold p_X8_status at hp
  refine ct_of (by decide) (by simp [Value.category]) (Nat.le_of_ble_eq_true rfl) (fun K hE F => ?_)
  subst hE
  refine rw_iload_n F dc_X8_status_0 rfl ?_
  refine rw_iconst (v := (-1)) F dc_X8_status_1 rfl ?_
  refine rw_bipush (v := 6) F dc_X8_status_2 rfl ?_
  refine rw_cSi F [_, _, _] dc_X8_status_4 ms_X8_within ml_RX8_97 (by decide)  rfl rfl (Nat.le_of_ble_eq_true rfl) ct_X8_within ?_
  refine rw_if_ne (tgt := 17) F dc_X8_status_7 rfl (fun c1 => ?_) (fun c1 => ?_)
  · rw [if_neg c1] at hp
    refine rw_iload_n F dc_X8_status_17 rfl ?_
    refine rw_if_lt (tgt := 28) F dc_X8_status_18 rfl (fun c2 => ?_) (fun c2 => ?_)
    · rw [if_pos c2] at hp
      refine rw_iconst (v := 0) F dc_X8_status_28 rfl ?_
      refine rw_istore_n F dc_X8_status_29 (by decide) rfl ?_
      refine rw_iconst (v := 0) F dc_X8_status_30 rfl ?_
      refine rw_istore_n F dc_X8_status_31 (by decide) rfl ?_
      exact lp_X8_status_32 F  N N _ _ _ _ hp ⟨by first | (simp only [f_X8_status, g_X8_status, if_neg c1, if_pos c2]; done) | rfl | (simp only [f_X8_status, g_X8_status, if_neg c1, if_pos c2]; rfl), by first | (simp only [f_X8_status, g_X8_status, if_neg c1, if_pos c2]; done) | rfl | (simp only [f_X8_status, g_X8_status, if_neg c1, if_pos c2]; rfl)⟩
    · rw [if_neg c2] at hp
      refine rw_aload_n F dc_X8_status_21 rfl ?_
      refine rw_getR F dc_X8_status_22 fl_RX8_36 (by first | rfl | assumption | decide | exact r73_k (by assumption) | exact fb_k (by assumption) | exact sb_k (by assumption) | exact tb_k (by assumption) | exact sb_li (by assumption) | exact sb_s (by assumption) | exact tb_n (by assumption) | exact fb_k (sb_f (by assumption))) (by first | rfl | assumption | exact lk6 (by assumption) _ | exact lk2 (by assumption) _ | exact fb_l0 (by assumption) | exact fb_l1 (by assumption) | exact sb_l0 (by assumption) | exact sb_l1 (by assumption) | exact sb_l2 (by assumption) | exact sb_l3 (by assumption) | exact tb_l0 (by assumption) | exact tb_l1 (by assumption) | exact tb_l2 (by assumption) | exact lk2 (sb_li (by assumption)) _ | exact fb_l0 (sb_f (by assumption)) | exact fb_l1 (sb_f (by assumption))) ?_
      refine rw_iload_n F dc_X8_status_25 rfl ?_
      obtain ⟨hs3, hp⟩ := hp
      refine rw_iaC F dc_X8_status_26 (by first | rfl | assumption | decide | exact r73_k (by assumption) | exact fb_k (by assumption) | exact sb_k (by assumption) | exact tb_k (by assumption) | exact sb_li (by assumption) | exact sb_s (by assumption) | exact tb_n (by assumption) | exact fb_k (sb_f (by assumption))) (by first | rfl | exact r73_n (by assumption) | exact sb_sn (by assumption) | exact tb_nn (by assumption)) hs3 ?_
      refine rw_iret F dc_X8_status_27 rfl rfl ?_
      exact ⟨by first | (simp only [f_X8_status, g_X8_status, if_neg c1, if_neg c2]; done) | rfl | (simp only [f_X8_status, g_X8_status, if_neg c1, if_neg c2]; rfl), by first | (simp only [f_X8_status, g_X8_status, if_neg c1, if_neg c2]; done) | rfl | (simp only [f_X8_status, g_X8_status, if_neg c1, if_neg c2]; rfl)⟩
  · rw [if_pos c1] at hp
    refine rw_aload_n F dc_X8_status_10 rfl ?_
    refine rw_ldc F dc_X8_status_11 kc_RX8_82 ?_
    refine rw_cVi F [_] dc_X8_status_13 mv_X8_found ml_RX8_83 (by decide) (rc_8 (by first | rfl | assumption | decide | exact r73_k (by assumption) | exact fb_k (by assumption) | exact sb_k (by assumption) | exact tb_k (by assumption) | exact sb_li (by assumption) | exact sb_s (by assumption) | exact tb_n (by assumption) | exact fb_k (sb_f (by assumption)))) rfl rfl (Nat.le_of_ble_eq_true rfl) cn_X8_found ?_
    refine rw_iret F dc_X8_status_16 rfl rfl ?_
    exact ⟨by first | (simp only [f_X8_status, g_X8_status, if_pos c1]; done) | rfl | (simp only [f_X8_status, g_X8_status, if_pos c1]; rfl), by first | (simp only [f_X8_status, g_X8_status, if_pos c1]; done) | rfl | (simp only [f_X8_status, g_X8_status, if_pos c1]; rfl)⟩
def f_X8_of  (x1 : Int32) (x2 : Int32) (τ : tw_T) : Int32 := if (f_X8_isShip x1 τ) = (0 : Int32) then ((-1000001)) else (if (f_X8_within x2 0 8 τ) = (0 : Int32) then ((-1000001)) else (if x2 = (7 : Int32) then (f_X6_cellsToGo (3 + 2 + x1.toNatClampNeg) (τ 2 4) τ) else (if x2 = (8 : Int32) then (f_X6_seen (3 + 2 + x1.toNatClampNeg) (f_X2_shownAhead 2 0 τ) (τ 2 4) τ) else (f_X6_told (3 + 2 + x1.toNatClampNeg) x2 τ))))
def g_X8_of  (x1 : Int32) (x2 : Int32) (τ : tw_T) : tw_T := if (f_X8_isShip x1 τ) = (0 : Int32) then (g_X8_found ((-1000001)) τ) else (if (f_X8_within x2 0 8 τ) = (0 : Int32) then (g_X8_found ((-1000001)) τ) else τ)
def p_X8_of  (x1 : Int32) (x2 : Int32) (τ : tw_T) : Prop := if (f_X8_isShip x1 τ) = (0 : Int32) then True else (if (f_X8_within x2 0 8 τ) = (0 : Int32) then True else (vp_in x1 8 ∧ True))
theorem ct_X8_of {E : tw_E}   {x1 : Int32} {x2 : Int32} {τ : tw_T} (hp : p_X8_of x1 x2 τ)  : tw_Ci E 4 mX8_of [.ref 0, .int x1, .int x2] τ (f_X8_of x1 x2 τ) (g_X8_of x1 x2 τ) := by
  unfold p_X8_of at hp
  refine ct_of (by decide) (by simp [Value.category]) (Nat.le_of_ble_eq_true rfl) (fun K hE F => ?_)
  subst hE
  refine rw_aload_n F dc_X8_of_0 rfl ?_
  refine rw_iload_n F dc_X8_of_1 rfl ?_
  refine rw_cVi F [_] dc_X8_of_2 mv_X8_isShip ml_RX8_119 (by decide) (rc_8 (by first | rfl | assumption | decide | exact r73_k (by assumption) | exact fb_k (by assumption) | exact sb_k (by assumption) | exact tb_k (by assumption) | exact sb_li (by assumption) | exact sb_s (by assumption) | exact tb_n (by assumption) | exact fb_k (sb_f (by assumption)))) rfl rfl (Nat.le_of_ble_eq_true rfl) ct_X8_isShip ?_
  refine rw_if_eq (tgt := 18) F dc_X8_of_5 rfl (fun c1 => ?_) (fun c1 => ?_)
  · rw [if_pos c1] at hp
    refine rw_aload_n F dc_X8_of_18 rfl ?_
    refine rw_ldc F dc_X8_of_19 kc_RX8_82 ?_
    refine rw_cVi F [_] dc_X8_of_21 mv_X8_found ml_RX8_83 (by decide) (rc_8 (by first | rfl | assumption | decide | exact r73_k (by assumption) | exact fb_k (by assumption) | exact sb_k (by assumption) | exact tb_k (by assumption) | exact sb_li (by assumption) | exact sb_s (by assumption) | exact tb_n (by assumption) | exact fb_k (sb_f (by assumption)))) rfl rfl (Nat.le_of_ble_eq_true rfl) cn_X8_found ?_
    refine rw_iret F dc_X8_of_24 rfl rfl ?_
    exact ⟨by first | (simp only [f_X8_of, g_X8_of, if_pos c1]; done) | rfl | (simp only [f_X8_of, g_X8_of, if_pos c1]; rfl), by first | (simp only [f_X8_of, g_X8_of, if_pos c1]; done) | rfl | (simp only [f_X8_of, g_X8_of, if_pos c1]; rfl)⟩
  · rw [if_neg c1] at hp
    refine rw_iload_n F dc_X8_of_8 rfl ?_
    refine rw_iconst (v := 0) F dc_X8_of_9 rfl ?_
    refine rw_bipush (v := 8) F dc_X8_of_10 rfl ?_
    refine rw_cSi F [_, _, _] dc_X8_of_12 ms_X8_within ml_RX8_97 (by decide)  rfl rfl (Nat.le_of_ble_eq_true rfl) ct_X8_within ?_
    refine rw_if_ne (tgt := 25) F dc_X8_of_15 rfl (fun c2 => ?_) (fun c2 => ?_)
    · rw [if_neg c2] at hp
      refine rw_aload_n F dc_X8_of_25 rfl ?_
      refine rw_getR F dc_X8_of_26 fl_RX8_12 (by first | rfl | assumption | decide | exact r73_k (by assumption) | exact fb_k (by assumption) | exact sb_k (by assumption) | exact tb_k (by assumption) | exact sb_li (by assumption) | exact sb_s (by assumption) | exact tb_n (by assumption) | exact fb_k (sb_f (by assumption))) (by first | rfl | assumption | exact lk6 (by assumption) _ | exact lk2 (by assumption) _ | exact fb_l0 (by assumption) | exact fb_l1 (by assumption) | exact sb_l0 (by assumption) | exact sb_l1 (by assumption) | exact sb_l2 (by assumption) | exact sb_l3 (by assumption) | exact tb_l0 (by assumption) | exact tb_l1 (by assumption) | exact tb_l2 (by assumption) | exact lk2 (sb_li (by assumption)) _ | exact fb_l0 (sb_f (by assumption)) | exact fb_l1 (sb_f (by assumption))) ?_
      refine rw_getR F dc_X8_of_29 fl_RX8_101 (by first | rfl | assumption | decide | exact r73_k (by assumption) | exact fb_k (by assumption) | exact sb_k (by assumption) | exact tb_k (by assumption) | exact sb_li (by assumption) | exact sb_s (by assumption) | exact tb_n (by assumption) | exact fb_k (sb_f (by assumption))) (by first | rfl | assumption | exact lk6 (by assumption) _ | exact lk2 (by assumption) _ | exact fb_l0 (by assumption) | exact fb_l1 (by assumption) | exact sb_l0 (by assumption) | exact sb_l1 (by assumption) | exact sb_l2 (by assumption) | exact sb_l3 (by assumption) | exact tb_l0 (by assumption) | exact tb_l1 (by assumption) | exact tb_l2 (by assumption) | exact lk2 (sb_li (by assumption)) _ | exact fb_l0 (sb_f (by assumption)) | exact fb_l1 (sb_f (by assumption))) ?_
      refine rw_getR F dc_X8_of_32 fl_RX8_123 (by first | rfl | assumption | decide | exact r73_k (by assumption) | exact fb_k (by assumption) | exact sb_k (by assumption) | exact tb_k (by assumption) | exact sb_li (by assumption) | exact sb_s (by assumption) | exact tb_n (by assumption) | exact fb_k (sb_f (by assumption))) (by first | rfl | assumption | exact lk6 (by assumption) _ | exact lk2 (by assumption) _ | exact fb_l0 (by assumption) | exact fb_l1 (by assumption) | exact sb_l0 (by assumption) | exact sb_l1 (by assumption) | exact sb_l2 (by assumption) | exact sb_l3 (by assumption) | exact tb_l0 (by assumption) | exact tb_l1 (by assumption) | exact tb_l2 (by assumption) | exact lk2 (sb_li (by assumption)) _ | exact fb_l0 (sb_f (by assumption)) | exact fb_l1 (sb_f (by assumption))) ?_
      refine rw_iload_n F dc_X8_of_35 rfl ?_
      obtain ⟨hs3, hp⟩ := hp
      refine rw_aaShip F dc_X8_of_36 (by first | assumption | exact (show _ ∈ tw_fbL by decide) | exact sb_f (by assumption)) hs3 (fun hk4 => ?_)
      refine rw_astore_n F dc_X8_of_37 (by decide) rfl ?_
      refine rw_iload_n F dc_X8_of_38 rfl ?_
      refine rw_bipush (v := 7) F dc_X8_of_39 rfl ?_
      refine rw_icmp_ne (tgt := 59) F dc_X8_of_41 rfl (fun c5 => ?_) (fun c5 => ?_)
      · refine rw_iload_n F dc_X8_of_59 rfl ?_
        refine rw_bipush (v := 8) F dc_X8_of_60 rfl ?_
        refine rw_icmp_ne (tgt := 91) F dc_X8_of_62 rfl (fun c6 => ?_) (fun c6 => ?_)
        · refine rw_aload_n F dc_X8_of_91 rfl ?_
          refine rw_iload_n F dc_X8_of_92 rfl ?_
          refine rw_cVi F [_] dc_X8_of_93 mv_X6_told ml_RX8_140 (by decide) (rc_6 (by first | rfl | assumption | decide | exact r73_k (by assumption) | exact fb_k (by assumption) | exact sb_k (by assumption) | exact tb_k (by assumption) | exact sb_li (by assumption) | exact sb_s (by assumption) | exact tb_n (by assumption) | exact fb_k (sb_f (by assumption)))) rfl rfl (Nat.le_of_ble_eq_true rfl) ct_X6_told ?_
          refine rw_iret F dc_X8_of_96 rfl rfl ?_
          exact ⟨by first | (simp only [f_X8_of, g_X8_of, if_neg c1, if_neg c2, if_neg c5, if_neg c6]; done) | rfl | (simp only [f_X8_of, g_X8_of, if_neg c1, if_neg c2, if_neg c5, if_neg c6]; rfl), by first | (simp only [f_X8_of, g_X8_of, if_neg c1, if_neg c2, if_neg c5, if_neg c6]; done) | rfl | (simp only [f_X8_of, g_X8_of, if_neg c1, if_neg c2, if_neg c5, if_neg c6]; rfl)⟩
        · refine rw_aload_n F dc_X8_of_65 rfl ?_
          refine rw_aload_n F dc_X8_of_66 rfl ?_
          refine rw_getR F dc_X8_of_67 fl_RX8_12 (by first | rfl | assumption | decide | exact r73_k (by assumption) | exact fb_k (by assumption) | exact sb_k (by assumption) | exact tb_k (by assumption) | exact sb_li (by assumption) | exact sb_s (by assumption) | exact tb_n (by assumption) | exact fb_k (sb_f (by assumption))) (by first | rfl | assumption | exact lk6 (by assumption) _ | exact lk2 (by assumption) _ | exact fb_l0 (by assumption) | exact fb_l1 (by assumption) | exact sb_l0 (by assumption) | exact sb_l1 (by assumption) | exact sb_l2 (by assumption) | exact sb_l3 (by assumption) | exact tb_l0 (by assumption) | exact tb_l1 (by assumption) | exact tb_l2 (by assumption) | exact lk2 (sb_li (by assumption)) _ | exact fb_l0 (sb_f (by assumption)) | exact fb_l1 (sb_f (by assumption))) ?_
          refine rw_getR F dc_X8_of_70 fl_RX8_87 (by first | rfl | assumption | decide | exact r73_k (by assumption) | exact fb_k (by assumption) | exact sb_k (by assumption) | exact tb_k (by assumption) | exact sb_li (by assumption) | exact sb_s (by assumption) | exact tb_n (by assumption) | exact fb_k (sb_f (by assumption))) (by first | rfl | assumption | exact lk6 (by assumption) _ | exact lk2 (by assumption) _ | exact fb_l0 (by assumption) | exact fb_l1 (by assumption) | exact sb_l0 (by assumption) | exact sb_l1 (by assumption) | exact sb_l2 (by assumption) | exact sb_l3 (by assumption) | exact tb_l0 (by assumption) | exact tb_l1 (by assumption) | exact tb_l2 (by assumption) | exact lk2 (sb_li (by assumption)) _ | exact fb_l0 (sb_f (by assumption)) | exact fb_l1 (sb_f (by assumption))) ?_
          refine rw_iconst (v := 0) F dc_X8_of_73 rfl ?_
          refine rw_cVi F [_] dc_X8_of_74 mv_X2_shownAhead ml_RX8_133 (by decide) (rc_2 (by first | rfl | assumption | decide | exact r73_k (by assumption) | exact fb_k (by assumption) | exact sb_k (by assumption) | exact tb_k (by assumption) | exact sb_li (by assumption) | exact sb_s (by assumption) | exact tb_n (by assumption) | exact fb_k (sb_f (by assumption)))) rfl rfl (Nat.le_of_ble_eq_true rfl) ct_X2_shownAhead ?_
          refine rw_aload_n F dc_X8_of_77 rfl ?_
          refine rw_getR F dc_X8_of_78 fl_RX8_12 (by first | rfl | assumption | decide | exact r73_k (by assumption) | exact fb_k (by assumption) | exact sb_k (by assumption) | exact tb_k (by assumption) | exact sb_li (by assumption) | exact sb_s (by assumption) | exact tb_n (by assumption) | exact fb_k (sb_f (by assumption))) (by first | rfl | assumption | exact lk6 (by assumption) _ | exact lk2 (by assumption) _ | exact fb_l0 (by assumption) | exact fb_l1 (by assumption) | exact sb_l0 (by assumption) | exact sb_l1 (by assumption) | exact sb_l2 (by assumption) | exact sb_l3 (by assumption) | exact tb_l0 (by assumption) | exact tb_l1 (by assumption) | exact tb_l2 (by assumption) | exact lk2 (sb_li (by assumption)) _ | exact fb_l0 (sb_f (by assumption)) | exact fb_l1 (sb_f (by assumption))) ?_
          refine rw_getR F dc_X8_of_81 fl_RX8_87 (by first | rfl | assumption | decide | exact r73_k (by assumption) | exact fb_k (by assumption) | exact sb_k (by assumption) | exact tb_k (by assumption) | exact sb_li (by assumption) | exact sb_s (by assumption) | exact tb_n (by assumption) | exact fb_k (sb_f (by assumption))) (by first | rfl | assumption | exact lk6 (by assumption) _ | exact lk2 (by assumption) _ | exact fb_l0 (by assumption) | exact fb_l1 (by assumption) | exact sb_l0 (by assumption) | exact sb_l1 (by assumption) | exact sb_l2 (by assumption) | exact sb_l3 (by assumption) | exact tb_l0 (by assumption) | exact tb_l1 (by assumption) | exact tb_l2 (by assumption) | exact lk2 (sb_li (by assumption)) _ | exact fb_l0 (sb_f (by assumption)) | exact fb_l1 (sb_f (by assumption))) ?_
          refine rw_getI F dc_X8_of_84 fl_RX8_127 (by first | rfl | assumption | decide | exact r73_k (by assumption) | exact fb_k (by assumption) | exact sb_k (by assumption) | exact tb_k (by assumption) | exact sb_li (by assumption) | exact sb_s (by assumption) | exact tb_n (by assumption) | exact fb_k (sb_f (by assumption))) (by first | rfl | assumption | exact lk6 (by assumption) _ | exact lk2 (by assumption) _ | exact fb_l0 (by assumption) | exact fb_l1 (by assumption) | exact sb_l0 (by assumption) | exact sb_l1 (by assumption) | exact sb_l2 (by assumption) | exact sb_l3 (by assumption) | exact tb_l0 (by assumption) | exact tb_l1 (by assumption) | exact tb_l2 (by assumption) | exact lk2 (sb_li (by assumption)) _ | exact fb_l0 (sb_f (by assumption)) | exact fb_l1 (sb_f (by assumption))) ?_
          refine rw_cVi F [_, _] dc_X8_of_87 mv_X6_seen ml_RX8_136 (by decide) (rc_6 (by first | rfl | assumption | decide | exact r73_k (by assumption) | exact fb_k (by assumption) | exact sb_k (by assumption) | exact tb_k (by assumption) | exact sb_li (by assumption) | exact sb_s (by assumption) | exact tb_n (by assumption) | exact fb_k (sb_f (by assumption)))) rfl rfl (Nat.le_of_ble_eq_true rfl) ct_X6_seen ?_
          refine rw_iret F dc_X8_of_90 rfl rfl ?_
          exact ⟨by first | (simp only [f_X8_of, g_X8_of, if_neg c1, if_neg c2, if_neg c5, if_pos c6]; done) | rfl | (simp only [f_X8_of, g_X8_of, if_neg c1, if_neg c2, if_neg c5, if_pos c6]; rfl), by first | (simp only [f_X8_of, g_X8_of, if_neg c1, if_neg c2, if_neg c5, if_pos c6]; done) | rfl | (simp only [f_X8_of, g_X8_of, if_neg c1, if_neg c2, if_neg c5, if_pos c6]; rfl)⟩
      · refine rw_aload_n F dc_X8_of_44 rfl ?_
        refine rw_aload_n F dc_X8_of_45 rfl ?_
        refine rw_getR F dc_X8_of_46 fl_RX8_12 (by first | rfl | assumption | decide | exact r73_k (by assumption) | exact fb_k (by assumption) | exact sb_k (by assumption) | exact tb_k (by assumption) | exact sb_li (by assumption) | exact sb_s (by assumption) | exact tb_n (by assumption) | exact fb_k (sb_f (by assumption))) (by first | rfl | assumption | exact lk6 (by assumption) _ | exact lk2 (by assumption) _ | exact fb_l0 (by assumption) | exact fb_l1 (by assumption) | exact sb_l0 (by assumption) | exact sb_l1 (by assumption) | exact sb_l2 (by assumption) | exact sb_l3 (by assumption) | exact tb_l0 (by assumption) | exact tb_l1 (by assumption) | exact tb_l2 (by assumption) | exact lk2 (sb_li (by assumption)) _ | exact fb_l0 (sb_f (by assumption)) | exact fb_l1 (sb_f (by assumption))) ?_
        refine rw_getR F dc_X8_of_49 fl_RX8_87 (by first | rfl | assumption | decide | exact r73_k (by assumption) | exact fb_k (by assumption) | exact sb_k (by assumption) | exact tb_k (by assumption) | exact sb_li (by assumption) | exact sb_s (by assumption) | exact tb_n (by assumption) | exact fb_k (sb_f (by assumption))) (by first | rfl | assumption | exact lk6 (by assumption) _ | exact lk2 (by assumption) _ | exact fb_l0 (by assumption) | exact fb_l1 (by assumption) | exact sb_l0 (by assumption) | exact sb_l1 (by assumption) | exact sb_l2 (by assumption) | exact sb_l3 (by assumption) | exact tb_l0 (by assumption) | exact tb_l1 (by assumption) | exact tb_l2 (by assumption) | exact lk2 (sb_li (by assumption)) _ | exact fb_l0 (sb_f (by assumption)) | exact fb_l1 (sb_f (by assumption))) ?_
        refine rw_getI F dc_X8_of_52 fl_RX8_127 (by first | rfl | assumption | decide | exact r73_k (by assumption) | exact fb_k (by assumption) | exact sb_k (by assumption) | exact tb_k (by assumption) | exact sb_li (by assumption) | exact sb_s (by assumption) | exact tb_n (by assumption) | exact fb_k (sb_f (by assumption))) (by first | rfl | assumption | exact lk6 (by assumption) _ | exact lk2 (by assumption) _ | exact fb_l0 (by assumption) | exact fb_l1 (by assumption) | exact sb_l0 (by assumption) | exact sb_l1 (by assumption) | exact sb_l2 (by assumption) | exact sb_l3 (by assumption) | exact tb_l0 (by assumption) | exact tb_l1 (by assumption) | exact tb_l2 (by assumption) | exact lk2 (sb_li (by assumption)) _ | exact fb_l0 (sb_f (by assumption)) | exact fb_l1 (sb_f (by assumption))) ?_
        refine rw_cVi F [_] dc_X8_of_55 mv_X6_cellsToGo ml_RX8_130 (by decide) (rc_6 (by first | rfl | assumption | decide | exact r73_k (by assumption) | exact fb_k (by assumption) | exact sb_k (by assumption) | exact tb_k (by assumption) | exact sb_li (by assumption) | exact sb_s (by assumption) | exact tb_n (by assumption) | exact fb_k (sb_f (by assumption)))) rfl rfl (Nat.le_of_ble_eq_true rfl) ct_X6_cellsToGo ?_
        refine rw_iret F dc_X8_of_58 rfl rfl ?_
        exact ⟨by first | (simp only [f_X8_of, g_X8_of, if_neg c1, if_neg c2, if_pos c5]; done) | rfl | (simp only [f_X8_of, g_X8_of, if_neg c1, if_neg c2, if_pos c5]; rfl), by first | (simp only [f_X8_of, g_X8_of, if_neg c1, if_neg c2, if_pos c5]; done) | rfl | (simp only [f_X8_of, g_X8_of, if_neg c1, if_neg c2, if_pos c5]; rfl)⟩
    · rw [if_pos c2] at hp
      refine rw_aload_n F dc_X8_of_18 rfl ?_
      refine rw_ldc F dc_X8_of_19 kc_RX8_82 ?_
      refine rw_cVi F [_] dc_X8_of_21 mv_X8_found ml_RX8_83 (by decide) (rc_8 (by first | rfl | assumption | decide | exact r73_k (by assumption) | exact fb_k (by assumption) | exact sb_k (by assumption) | exact tb_k (by assumption) | exact sb_li (by assumption) | exact sb_s (by assumption) | exact tb_n (by assumption) | exact fb_k (sb_f (by assumption)))) rfl rfl (Nat.le_of_ble_eq_true rfl) cn_X8_found ?_
      refine rw_iret F dc_X8_of_24 rfl rfl ?_
      exact ⟨by first | (simp only [f_X8_of, g_X8_of, if_neg c1, if_pos c2]; done) | rfl | (simp only [f_X8_of, g_X8_of, if_neg c1, if_pos c2]; rfl), by first | (simp only [f_X8_of, g_X8_of, if_neg c1, if_pos c2]; done) | rfl | (simp only [f_X8_of, g_X8_of, if_neg c1, if_pos c2]; rfl)⟩
def f_X8_image (N : Nat)   (τ : tw_T) : Int32 := 1
def g_X8_image (N : Nat)   (τ : tw_T) : tw_T := tw_sr (g_X4_take N 14 1 τ) 0 (upd ((g_X4_take N 14 1 τ) 0) 2 1)
def p_X8_image (N : Nat)   (τ : tw_T) : Prop := p_X4_take N 14 1 τ ∧ True
theorem ct_X8_image {E : tw_E}  {N : Nat}   {τ : tw_T} (hp : p_X8_image N τ)  : tw_Ci E 4 mX8_image [.ref 0] τ (f_X8_image N τ) (g_X8_image N τ) := by
  unfold p_X8_image at hp
  refine ct_of (by decide) (by simp [Value.category]) (Nat.le_of_ble_eq_true rfl) (fun K hE F => ?_)
  subst hE
  refine rw_aload_n F dc_X8_image_0 rfl ?_
  refine rw_getR F dc_X8_image_1 fl_RX8_16 (by first | rfl | assumption | decide | exact r73_k (by assumption) | exact fb_k (by assumption) | exact sb_k (by assumption) | exact tb_k (by assumption) | exact sb_li (by assumption) | exact sb_s (by assumption) | exact tb_n (by assumption) | exact fb_k (sb_f (by assumption))) (by first | rfl | assumption | exact lk6 (by assumption) _ | exact lk2 (by assumption) _ | exact fb_l0 (by assumption) | exact fb_l1 (by assumption) | exact sb_l0 (by assumption) | exact sb_l1 (by assumption) | exact sb_l2 (by assumption) | exact sb_l3 (by assumption) | exact tb_l0 (by assumption) | exact tb_l1 (by assumption) | exact tb_l2 (by assumption) | exact lk2 (sb_li (by assumption)) _ | exact fb_l0 (sb_f (by assumption)) | exact fb_l1 (sb_f (by assumption))) ?_
  refine rw_aload_n F dc_X8_image_4 rfl ?_
  refine rw_getR F dc_X8_image_5 fl_RX8_12 (by first | rfl | assumption | decide | exact r73_k (by assumption) | exact fb_k (by assumption) | exact sb_k (by assumption) | exact tb_k (by assumption) | exact sb_li (by assumption) | exact sb_s (by assumption) | exact tb_n (by assumption) | exact fb_k (sb_f (by assumption))) (by first | rfl | assumption | exact lk6 (by assumption) _ | exact lk2 (by assumption) _ | exact fb_l0 (by assumption) | exact fb_l1 (by assumption) | exact sb_l0 (by assumption) | exact sb_l1 (by assumption) | exact sb_l2 (by assumption) | exact sb_l3 (by assumption) | exact tb_l0 (by assumption) | exact tb_l1 (by assumption) | exact tb_l2 (by assumption) | exact lk2 (sb_li (by assumption)) _ | exact fb_l0 (sb_f (by assumption)) | exact fb_l1 (sb_f (by assumption))) ?_
  obtain ⟨hs1, hp⟩ := hp
  refine rw_cVv F [_] dc_X8_image_8 mv_X4_take ml_RX8_273 (by decide) (rc_4 (by first | rfl | assumption | decide | exact r73_k (by assumption) | exact fb_k (by assumption) | exact sb_k (by assumption) | exact tb_k (by assumption) | exact sb_li (by assumption) | exact sb_s (by assumption) | exact tb_n (by assumption) | exact fb_k (sb_f (by assumption)))) rfl rfl (Nat.le_of_ble_eq_true rfl) (ct_X4_take hs1) ?_
  refine rw_aload_n F dc_X8_image_11 rfl ?_
  refine rw_iconst (v := 1) F dc_X8_image_12 rfl ?_
  refine rw_put F dc_X8_image_13 pf_RX8_19 (by first | rfl | assumption | decide | exact r73_k (by assumption) | exact fb_k (by assumption) | exact sb_k (by assumption) | exact tb_k (by assumption) | exact sb_li (by assumption) | exact sb_s (by assumption) | exact tb_n (by assumption) | exact fb_k (sb_f (by assumption))) (by first | rfl | assumption | exact lk6 (by assumption) _ | exact lk2 (by assumption) _ | exact fb_l0 (by assumption) | exact fb_l1 (by assumption) | exact sb_l0 (by assumption) | exact sb_l1 (by assumption) | exact sb_l2 (by assumption) | exact sb_l3 (by assumption) | exact tb_l0 (by assumption) | exact tb_l1 (by assumption) | exact tb_l2 (by assumption) | exact lk2 (sb_li (by assumption)) _ | exact fb_l0 (sb_f (by assumption)) | exact fb_l1 (sb_f (by assumption))) rfl rfl ?_
  refine rw_iconst (v := 1) F dc_X8_image_16 rfl ?_
  refine rw_iret F dc_X8_image_17 rfl rfl ?_
  exact ⟨by first | (simp only [f_X8_image, g_X8_image]; done) | rfl | (simp only [f_X8_image, g_X8_image]; rfl), by first | (simp only [f_X8_image, g_X8_image]; done) | rfl | (simp only [f_X8_image, g_X8_image]; rfl)⟩
def f_X8_undo (N : Nat)   (τ : tw_T) : Int32 := if (τ 0 2) = (0 : Int32) then ((-1000004)) else ((g_X4_take N 1 14 τ) 2 4)
def g_X8_undo (N : Nat)   (τ : tw_T) : tw_T := if (τ 0 2) = (0 : Int32) then (g_X8_found ((-1000004)) τ) else (g_X4_take N 1 14 τ)
def p_X8_undo (N : Nat)   (τ : tw_T) : Prop := if (τ 0 2) = (0 : Int32) then True else (p_X4_take N 1 14 τ ∧ True)
theorem ct_X8_undo {E : tw_E}  {N : Nat}   {τ : tw_T} (hp : p_X8_undo N τ)  : tw_Ci E 4 mX8_undo [.ref 0] τ (f_X8_undo N τ) (g_X8_undo N τ) := by
  unfold p_X8_undo at hp
  refine ct_of (by decide) (by simp [Value.category]) (Nat.le_of_ble_eq_true rfl) (fun K hE F => ?_)
  subst hE
  refine rw_aload_n F dc_X8_undo_0 rfl ?_
  refine rw_getI F dc_X8_undo_1 fl_RX8_19 (by first | rfl | assumption | decide | exact r73_k (by assumption) | exact fb_k (by assumption) | exact sb_k (by assumption) | exact tb_k (by assumption) | exact sb_li (by assumption) | exact sb_s (by assumption) | exact tb_n (by assumption) | exact fb_k (sb_f (by assumption))) (by first | rfl | assumption | exact lk6 (by assumption) _ | exact lk2 (by assumption) _ | exact fb_l0 (by assumption) | exact fb_l1 (by assumption) | exact sb_l0 (by assumption) | exact sb_l1 (by assumption) | exact sb_l2 (by assumption) | exact sb_l3 (by assumption) | exact tb_l0 (by assumption) | exact tb_l1 (by assumption) | exact tb_l2 (by assumption) | exact lk2 (sb_li (by assumption)) _ | exact fb_l0 (sb_f (by assumption)) | exact fb_l1 (sb_f (by assumption))) ?_
  refine rw_if_ne (tgt := 14) F dc_X8_undo_4 rfl (fun c1 => ?_) (fun c1 => ?_)
  · rw [if_neg c1] at hp
    refine rw_aload_n F dc_X8_undo_14 rfl ?_
    refine rw_getR F dc_X8_undo_15 fl_RX8_12 (by first | rfl | assumption | decide | exact r73_k (by assumption) | exact fb_k (by assumption) | exact sb_k (by assumption) | exact tb_k (by assumption) | exact sb_li (by assumption) | exact sb_s (by assumption) | exact tb_n (by assumption) | exact fb_k (sb_f (by assumption))) (by first | rfl | assumption | exact lk6 (by assumption) _ | exact lk2 (by assumption) _ | exact fb_l0 (by assumption) | exact fb_l1 (by assumption) | exact sb_l0 (by assumption) | exact sb_l1 (by assumption) | exact sb_l2 (by assumption) | exact sb_l3 (by assumption) | exact tb_l0 (by assumption) | exact tb_l1 (by assumption) | exact tb_l2 (by assumption) | exact lk2 (sb_li (by assumption)) _ | exact fb_l0 (sb_f (by assumption)) | exact fb_l1 (sb_f (by assumption))) ?_
    refine rw_aload_n F dc_X8_undo_18 rfl ?_
    refine rw_getR F dc_X8_undo_19 fl_RX8_16 (by first | rfl | assumption | decide | exact r73_k (by assumption) | exact fb_k (by assumption) | exact sb_k (by assumption) | exact tb_k (by assumption) | exact sb_li (by assumption) | exact sb_s (by assumption) | exact tb_n (by assumption) | exact fb_k (sb_f (by assumption))) (by first | rfl | assumption | exact lk6 (by assumption) _ | exact lk2 (by assumption) _ | exact fb_l0 (by assumption) | exact fb_l1 (by assumption) | exact sb_l0 (by assumption) | exact sb_l1 (by assumption) | exact sb_l2 (by assumption) | exact sb_l3 (by assumption) | exact tb_l0 (by assumption) | exact tb_l1 (by assumption) | exact tb_l2 (by assumption) | exact lk2 (sb_li (by assumption)) _ | exact fb_l0 (sb_f (by assumption)) | exact fb_l1 (sb_f (by assumption))) ?_
    obtain ⟨hs2, hp⟩ := hp
    refine rw_cVv F [_] dc_X8_undo_22 mv_X4_take ml_RX8_273 (by decide) (rc_4 (by first | rfl | assumption | decide | exact r73_k (by assumption) | exact fb_k (by assumption) | exact sb_k (by assumption) | exact tb_k (by assumption) | exact sb_li (by assumption) | exact sb_s (by assumption) | exact tb_n (by assumption) | exact fb_k (sb_f (by assumption)))) rfl rfl (Nat.le_of_ble_eq_true rfl) (ct_X4_take hs2) ?_
    refine rw_aload_n F dc_X8_undo_25 rfl ?_
    refine rw_getR F dc_X8_undo_26 fl_RX8_12 (by first | rfl | assumption | decide | exact r73_k (by assumption) | exact fb_k (by assumption) | exact sb_k (by assumption) | exact tb_k (by assumption) | exact sb_li (by assumption) | exact sb_s (by assumption) | exact tb_n (by assumption) | exact fb_k (sb_f (by assumption))) (by first | rfl | assumption | exact lk6 (by assumption) _ | exact lk2 (by assumption) _ | exact fb_l0 (by assumption) | exact fb_l1 (by assumption) | exact sb_l0 (by assumption) | exact sb_l1 (by assumption) | exact sb_l2 (by assumption) | exact sb_l3 (by assumption) | exact tb_l0 (by assumption) | exact tb_l1 (by assumption) | exact tb_l2 (by assumption) | exact lk2 (sb_li (by assumption)) _ | exact fb_l0 (sb_f (by assumption)) | exact fb_l1 (sb_f (by assumption))) ?_
    refine rw_getR F dc_X8_undo_29 fl_RX8_87 (by first | rfl | assumption | decide | exact r73_k (by assumption) | exact fb_k (by assumption) | exact sb_k (by assumption) | exact tb_k (by assumption) | exact sb_li (by assumption) | exact sb_s (by assumption) | exact tb_n (by assumption) | exact fb_k (sb_f (by assumption))) (by first | rfl | assumption | exact lk6 (by assumption) _ | exact lk2 (by assumption) _ | exact fb_l0 (by assumption) | exact fb_l1 (by assumption) | exact sb_l0 (by assumption) | exact sb_l1 (by assumption) | exact sb_l2 (by assumption) | exact sb_l3 (by assumption) | exact tb_l0 (by assumption) | exact tb_l1 (by assumption) | exact tb_l2 (by assumption) | exact lk2 (sb_li (by assumption)) _ | exact fb_l0 (sb_f (by assumption)) | exact fb_l1 (sb_f (by assumption))) ?_
    refine rw_getI F dc_X8_undo_32 fl_RX8_127 (by first | rfl | assumption | decide | exact r73_k (by assumption) | exact fb_k (by assumption) | exact sb_k (by assumption) | exact tb_k (by assumption) | exact sb_li (by assumption) | exact sb_s (by assumption) | exact tb_n (by assumption) | exact fb_k (sb_f (by assumption))) (by first | rfl | assumption | exact lk6 (by assumption) _ | exact lk2 (by assumption) _ | exact fb_l0 (by assumption) | exact fb_l1 (by assumption) | exact sb_l0 (by assumption) | exact sb_l1 (by assumption) | exact sb_l2 (by assumption) | exact sb_l3 (by assumption) | exact tb_l0 (by assumption) | exact tb_l1 (by assumption) | exact tb_l2 (by assumption) | exact lk2 (sb_li (by assumption)) _ | exact fb_l0 (sb_f (by assumption)) | exact fb_l1 (sb_f (by assumption))) ?_
    refine rw_iret F dc_X8_undo_35 rfl rfl ?_
    exact ⟨by first | (simp only [f_X8_undo, g_X8_undo, if_neg c1]; done) | rfl | (simp only [f_X8_undo, g_X8_undo, if_neg c1]; rfl), by first | (simp only [f_X8_undo, g_X8_undo, if_neg c1]; done) | rfl | (simp only [f_X8_undo, g_X8_undo, if_neg c1]; rfl)⟩
  · rw [if_pos c1] at hp
    refine rw_aload_n F dc_X8_undo_7 rfl ?_
    refine rw_ldc F dc_X8_undo_8 kc_RX8_196 ?_
    refine rw_cVi F [_] dc_X8_undo_10 mv_X8_found ml_RX8_83 (by decide) (rc_8 (by first | rfl | assumption | decide | exact r73_k (by assumption) | exact fb_k (by assumption) | exact sb_k (by assumption) | exact tb_k (by assumption) | exact sb_li (by assumption) | exact sb_s (by assumption) | exact tb_n (by assumption) | exact fb_k (sb_f (by assumption)))) rfl rfl (Nat.le_of_ble_eq_true rfl) cn_X8_found ?_
    refine rw_iret F dc_X8_undo_13 rfl rfl ?_
    exact ⟨by first | (simp only [f_X8_undo, g_X8_undo, if_pos c1]; done) | rfl | (simp only [f_X8_undo, g_X8_undo, if_pos c1]; rfl), by first | (simp only [f_X8_undo, g_X8_undo, if_pos c1]; done) | rfl | (simp only [f_X8_undo, g_X8_undo, if_pos c1]; rfl)⟩
def g_X8_sailTick (k : Nat) (x2 : Int32) (τ : tw_T) : tw_T := g_X6_sail k (f_X2_shownAhead 2 x2 τ) (f_X2_tickAhead 2 x2 τ) τ
theorem ct_X8_sailTick {E : tw_E} {k : Nat}  {x2 : Int32} {τ : tw_T}  (hk : tw_isK k 6 = true := by first | rfl | assumption) : tw_Cv E 4 mX8_sailTick [.ref 0, .ref k, .int x2] τ (g_X8_sailTick k x2 τ) := by
  refine ct_of (by decide) (by simp [Value.category]) (Nat.le_of_ble_eq_true rfl) (fun K hE F => ?_)
  subst hE
  refine rw_aload_n F dc_X8_sailTick_0 rfl ?_
  refine rw_aload_n F dc_X8_sailTick_1 rfl ?_
  refine rw_getR F dc_X8_sailTick_2 fl_RX8_12 (by first | rfl | assumption | decide | exact r73_k (by assumption) | exact fb_k (by assumption) | exact sb_k (by assumption) | exact tb_k (by assumption) | exact sb_li (by assumption) | exact sb_s (by assumption) | exact tb_n (by assumption) | exact fb_k (sb_f (by assumption))) (by first | rfl | assumption | exact lk6 (by assumption) _ | exact lk2 (by assumption) _ | exact fb_l0 (by assumption) | exact fb_l1 (by assumption) | exact sb_l0 (by assumption) | exact sb_l1 (by assumption) | exact sb_l2 (by assumption) | exact sb_l3 (by assumption) | exact tb_l0 (by assumption) | exact tb_l1 (by assumption) | exact tb_l2 (by assumption) | exact lk2 (sb_li (by assumption)) _ | exact fb_l0 (sb_f (by assumption)) | exact fb_l1 (sb_f (by assumption))) ?_
  refine rw_getR F dc_X8_sailTick_5 fl_RX8_87 (by first | rfl | assumption | decide | exact r73_k (by assumption) | exact fb_k (by assumption) | exact sb_k (by assumption) | exact tb_k (by assumption) | exact sb_li (by assumption) | exact sb_s (by assumption) | exact tb_n (by assumption) | exact fb_k (sb_f (by assumption))) (by first | rfl | assumption | exact lk6 (by assumption) _ | exact lk2 (by assumption) _ | exact fb_l0 (by assumption) | exact fb_l1 (by assumption) | exact sb_l0 (by assumption) | exact sb_l1 (by assumption) | exact sb_l2 (by assumption) | exact sb_l3 (by assumption) | exact tb_l0 (by assumption) | exact tb_l1 (by assumption) | exact tb_l2 (by assumption) | exact lk2 (sb_li (by assumption)) _ | exact fb_l0 (sb_f (by assumption)) | exact fb_l1 (sb_f (by assumption))) ?_
  refine rw_iload_n F dc_X8_sailTick_8 rfl ?_
  refine rw_cVi F [_] dc_X8_sailTick_9 mv_X2_shownAhead ml_RX8_133 (by decide) (rc_2 (by first | rfl | assumption | decide | exact r73_k (by assumption) | exact fb_k (by assumption) | exact sb_k (by assumption) | exact tb_k (by assumption) | exact sb_li (by assumption) | exact sb_s (by assumption) | exact tb_n (by assumption) | exact fb_k (sb_f (by assumption)))) rfl rfl (Nat.le_of_ble_eq_true rfl) ct_X2_shownAhead ?_
  refine rw_aload_n F dc_X8_sailTick_12 rfl ?_
  refine rw_getR F dc_X8_sailTick_13 fl_RX8_12 (by first | rfl | assumption | decide | exact r73_k (by assumption) | exact fb_k (by assumption) | exact sb_k (by assumption) | exact tb_k (by assumption) | exact sb_li (by assumption) | exact sb_s (by assumption) | exact tb_n (by assumption) | exact fb_k (sb_f (by assumption))) (by first | rfl | assumption | exact lk6 (by assumption) _ | exact lk2 (by assumption) _ | exact fb_l0 (by assumption) | exact fb_l1 (by assumption) | exact sb_l0 (by assumption) | exact sb_l1 (by assumption) | exact sb_l2 (by assumption) | exact sb_l3 (by assumption) | exact tb_l0 (by assumption) | exact tb_l1 (by assumption) | exact tb_l2 (by assumption) | exact lk2 (sb_li (by assumption)) _ | exact fb_l0 (sb_f (by assumption)) | exact fb_l1 (sb_f (by assumption))) ?_
  refine rw_getR F dc_X8_sailTick_16 fl_RX8_87 (by first | rfl | assumption | decide | exact r73_k (by assumption) | exact fb_k (by assumption) | exact sb_k (by assumption) | exact tb_k (by assumption) | exact sb_li (by assumption) | exact sb_s (by assumption) | exact tb_n (by assumption) | exact fb_k (sb_f (by assumption))) (by first | rfl | assumption | exact lk6 (by assumption) _ | exact lk2 (by assumption) _ | exact fb_l0 (by assumption) | exact fb_l1 (by assumption) | exact sb_l0 (by assumption) | exact sb_l1 (by assumption) | exact sb_l2 (by assumption) | exact sb_l3 (by assumption) | exact tb_l0 (by assumption) | exact tb_l1 (by assumption) | exact tb_l2 (by assumption) | exact lk2 (sb_li (by assumption)) _ | exact fb_l0 (sb_f (by assumption)) | exact fb_l1 (sb_f (by assumption))) ?_
  refine rw_iload_n F dc_X8_sailTick_19 rfl ?_
  refine rw_cVi F [_] dc_X8_sailTick_20 mv_X2_tickAhead ml_RX8_323 (by decide) (rc_2 (by first | rfl | assumption | decide | exact r73_k (by assumption) | exact fb_k (by assumption) | exact sb_k (by assumption) | exact tb_k (by assumption) | exact sb_li (by assumption) | exact sb_s (by assumption) | exact tb_n (by assumption) | exact fb_k (sb_f (by assumption)))) rfl rfl (Nat.le_of_ble_eq_true rfl) ct_X2_tickAhead ?_
  refine rw_cVv F [_, _] dc_X8_sailTick_23 mv_X6_sail ml_RX8_326 (by decide) (rc_6 (by first | rfl | assumption | decide | exact r73_k (by assumption) | exact fb_k (by assumption) | exact sb_k (by assumption) | exact tb_k (by assumption) | exact sb_li (by assumption) | exact sb_s (by assumption) | exact tb_n (by assumption) | exact fb_k (sb_f (by assumption)))) rfl rfl (Nat.le_of_ble_eq_true rfl) ct_X6_sail ?_
  refine rw_vret F dc_X8_sailTick_26 rfl ?_
  exact ⟨rfl, by first | (simp only [g_X8_sailTick]; done) | rfl | (simp only [g_X8_sailTick]; rfl)⟩
def f_X8_ahead (N : Nat)  (x1 : Int32) (x2 : Int32) (x3 : Int32) (τ : tw_T) : Int32 := if x2 = (1 : Int32) then (if (f_X8_isShip x1 τ) = (0 : Int32) then ((-1000001)) else (if (f_X8_within x3 0 100 τ) = (0 : Int32) then ((-1000001)) else (f_X6_told 45 x2 (g_X6_sailOn N 45 2 x3 (g_X6_take 45 (3 + 2 + x1.toNatClampNeg) τ))))) else (if x2 = (2 : Int32) then (if (f_X8_isShip x1 τ) = (0 : Int32) then ((-1000001)) else (if (f_X8_within x3 0 100 τ) = (0 : Int32) then ((-1000001)) else (f_X6_told 45 x2 (g_X6_sailOn N 45 2 x3 (g_X6_take 45 (3 + 2 + x1.toNatClampNeg) τ))))) else (if x2 = (5 : Int32) then (if (f_X8_isShip x1 τ) = (0 : Int32) then ((-1000001)) else (if (f_X8_within x3 0 100 τ) = (0 : Int32) then ((-1000001)) else (f_X6_told 45 x2 (g_X6_sailOn N 45 2 x3 (g_X6_take 45 (3 + 2 + x1.toNatClampNeg) τ))))) else (if x2 = (6 : Int32) then (if (f_X8_isShip x1 τ) = (0 : Int32) then ((-1000001)) else (if (f_X8_within x3 0 100 τ) = (0 : Int32) then ((-1000001)) else (f_X6_told 45 x2 (g_X6_sailOn N 45 2 x3 (g_X6_take 45 (3 + 2 + x1.toNatClampNeg) τ))))) else (if (f_X8_isShip x1 τ) = (0 : Int32) then ((-1000001)) else ((-1000001))))))
def g_X8_ahead (N : Nat)  (x1 : Int32) (x2 : Int32) (x3 : Int32) (τ : tw_T) : tw_T := if x2 = (1 : Int32) then (if (f_X8_isShip x1 τ) = (0 : Int32) then (g_X8_found ((-1000001)) τ) else (if (f_X8_within x3 0 100 τ) = (0 : Int32) then (g_X8_found ((-1000001)) τ) else (g_X6_sailOn N 45 2 x3 (g_X6_take 45 (3 + 2 + x1.toNatClampNeg) τ)))) else (if x2 = (2 : Int32) then (if (f_X8_isShip x1 τ) = (0 : Int32) then (g_X8_found ((-1000001)) τ) else (if (f_X8_within x3 0 100 τ) = (0 : Int32) then (g_X8_found ((-1000001)) τ) else (g_X6_sailOn N 45 2 x3 (g_X6_take 45 (3 + 2 + x1.toNatClampNeg) τ)))) else (if x2 = (5 : Int32) then (if (f_X8_isShip x1 τ) = (0 : Int32) then (g_X8_found ((-1000001)) τ) else (if (f_X8_within x3 0 100 τ) = (0 : Int32) then (g_X8_found ((-1000001)) τ) else (g_X6_sailOn N 45 2 x3 (g_X6_take 45 (3 + 2 + x1.toNatClampNeg) τ)))) else (if x2 = (6 : Int32) then (if (f_X8_isShip x1 τ) = (0 : Int32) then (g_X8_found ((-1000001)) τ) else (if (f_X8_within x3 0 100 τ) = (0 : Int32) then (g_X8_found ((-1000001)) τ) else (g_X6_sailOn N 45 2 x3 (g_X6_take 45 (3 + 2 + x1.toNatClampNeg) τ)))) else (g_X8_found ((-1000001)) τ))))
def p_X8_ahead (N : Nat)  (x1 : Int32) (x2 : Int32) (x3 : Int32) (τ : tw_T) : Prop := if x2 = (1 : Int32) then (if (f_X8_isShip x1 τ) = (0 : Int32) then True else (if (f_X8_within x3 0 100 τ) = (0 : Int32) then True else (vp_in x1 8 ∧ (p_X6_sailOn N 45 2 x3 (g_X6_take 45 (3 + 2 + x1.toNatClampNeg) τ) ∧ True)))) else (if x2 = (2 : Int32) then (if (f_X8_isShip x1 τ) = (0 : Int32) then True else (if (f_X8_within x3 0 100 τ) = (0 : Int32) then True else (vp_in x1 8 ∧ (p_X6_sailOn N 45 2 x3 (g_X6_take 45 (3 + 2 + x1.toNatClampNeg) τ) ∧ True)))) else (if x2 = (5 : Int32) then (if (f_X8_isShip x1 τ) = (0 : Int32) then True else (if (f_X8_within x3 0 100 τ) = (0 : Int32) then True else (vp_in x1 8 ∧ (p_X6_sailOn N 45 2 x3 (g_X6_take 45 (3 + 2 + x1.toNatClampNeg) τ) ∧ True)))) else (if x2 = (6 : Int32) then (if (f_X8_isShip x1 τ) = (0 : Int32) then True else (if (f_X8_within x3 0 100 τ) = (0 : Int32) then True else (vp_in x1 8 ∧ (p_X6_sailOn N 45 2 x3 (g_X6_take 45 (3 + 2 + x1.toNatClampNeg) τ) ∧ True)))) else True)))
theorem ct_X8_ahead {E : tw_E}  {N : Nat}  {x1 : Int32} {x2 : Int32} {x3 : Int32} {τ : tw_T} (hp : p_X8_ahead N x1 x2 x3 τ)  : tw_Ci E 5 mX8_ahead [.ref 0, .int x1, .int x2, .int x3] τ (f_X8_ahead N x1 x2 x3 τ) (g_X8_ahead N x1 x2 x3 τ) := by
  unfold p_X8_ahead at hp
  refine ct_of (by decide) (by simp [Value.category]) (Nat.le_of_ble_eq_true rfl) (fun K hE F => ?_)
  subst hE
  refine rw_iload_n F dc_X8_ahead_0 rfl ?_
  refine rw_iconst (v := 1) F dc_X8_ahead_1 rfl ?_
  refine rw_icmp_eq (tgt := 21) F dc_X8_ahead_2 rfl (fun c1 => ?_) (fun c1 => ?_)
  · rw [if_pos c1] at hp
    refine rw_iconst (v := 1) F dc_X8_ahead_21 rfl ?_
    refine rw_goto (tgt := 26) F dc_X8_ahead_22 rfl ?_
    refine rw_istore F dc_X8_ahead_26 (by decide) rfl ?_
    refine rw_aload_n F dc_X8_ahead_28 rfl ?_
    refine rw_iload_n F dc_X8_ahead_29 rfl ?_
    refine rw_cVi F [_] dc_X8_ahead_30 mv_X8_isShip ml_RX8_119 (by decide) (rc_8 (by first | rfl | assumption | decide | exact r73_k (by assumption) | exact fb_k (by assumption) | exact sb_k (by assumption) | exact tb_k (by assumption) | exact sb_li (by assumption) | exact sb_s (by assumption) | exact tb_n (by assumption) | exact fb_k (sb_f (by assumption)))) rfl rfl (Nat.le_of_ble_eq_true rfl) ct_X8_isShip ?_
    refine rw_if_eq (tgt := 51) F dc_X8_ahead_33 rfl (fun c2 => ?_) (fun c2 => ?_)
    · rw [if_pos c2] at hp
      refine rw_aload_n F dc_X8_ahead_51 rfl ?_
      refine rw_ldc F dc_X8_ahead_52 kc_RX8_82 ?_
      refine rw_cVi F [_] dc_X8_ahead_54 mv_X8_found ml_RX8_83 (by decide) (rc_8 (by first | rfl | assumption | decide | exact r73_k (by assumption) | exact fb_k (by assumption) | exact sb_k (by assumption) | exact tb_k (by assumption) | exact sb_li (by assumption) | exact sb_s (by assumption) | exact tb_n (by assumption) | exact fb_k (sb_f (by assumption)))) rfl rfl (Nat.le_of_ble_eq_true rfl) cn_X8_found ?_
      refine rw_iret F dc_X8_ahead_57 rfl rfl ?_
      exact ⟨by first | (simp only [f_X8_ahead, g_X8_ahead, if_pos c1, if_pos c2]; done) | rfl | (simp only [f_X8_ahead, g_X8_ahead, if_pos c1, if_pos c2]; rfl), by first | (simp only [f_X8_ahead, g_X8_ahead, if_pos c1, if_pos c2]; done) | rfl | (simp only [f_X8_ahead, g_X8_ahead, if_pos c1, if_pos c2]; rfl)⟩
    · rw [if_neg c2] at hp
      refine rw_iload F dc_X8_ahead_36 rfl ?_
      refine rw_if_eq (tgt := 51) F dc_X8_ahead_38 rfl (fun c3 => ?_) (fun c3 => ?_)
      · exact absurd c3 (by decide)
      · refine rw_iload_n F dc_X8_ahead_41 rfl ?_
        refine rw_iconst (v := 0) F dc_X8_ahead_42 rfl ?_
        refine rw_bipush (v := 100) F dc_X8_ahead_43 rfl ?_
        refine rw_cSi F [_, _, _] dc_X8_ahead_45 ms_X8_within ml_RX8_97 (by decide)  rfl rfl (Nat.le_of_ble_eq_true rfl) ct_X8_within ?_
        refine rw_if_ne (tgt := 58) F dc_X8_ahead_48 rfl (fun c4 => ?_) (fun c4 => ?_)
        · rw [if_neg c4] at hp
          refine rw_aload_n F dc_X8_ahead_58 rfl ?_
          refine rw_getR F dc_X8_ahead_59 fl_RX8_53 (by first | rfl | assumption | decide | exact r73_k (by assumption) | exact fb_k (by assumption) | exact sb_k (by assumption) | exact tb_k (by assumption) | exact sb_li (by assumption) | exact sb_s (by assumption) | exact tb_n (by assumption) | exact fb_k (sb_f (by assumption))) (by first | rfl | assumption | exact lk6 (by assumption) _ | exact lk2 (by assumption) _ | exact fb_l0 (by assumption) | exact fb_l1 (by assumption) | exact sb_l0 (by assumption) | exact sb_l1 (by assumption) | exact sb_l2 (by assumption) | exact sb_l3 (by assumption) | exact tb_l0 (by assumption) | exact tb_l1 (by assumption) | exact tb_l2 (by assumption) | exact lk2 (sb_li (by assumption)) _ | exact fb_l0 (sb_f (by assumption)) | exact fb_l1 (sb_f (by assumption))) ?_
          refine rw_aload_n F dc_X8_ahead_62 rfl ?_
          refine rw_getR F dc_X8_ahead_63 fl_RX8_12 (by first | rfl | assumption | decide | exact r73_k (by assumption) | exact fb_k (by assumption) | exact sb_k (by assumption) | exact tb_k (by assumption) | exact sb_li (by assumption) | exact sb_s (by assumption) | exact tb_n (by assumption) | exact fb_k (sb_f (by assumption))) (by first | rfl | assumption | exact lk6 (by assumption) _ | exact lk2 (by assumption) _ | exact fb_l0 (by assumption) | exact fb_l1 (by assumption) | exact sb_l0 (by assumption) | exact sb_l1 (by assumption) | exact sb_l2 (by assumption) | exact sb_l3 (by assumption) | exact tb_l0 (by assumption) | exact tb_l1 (by assumption) | exact tb_l2 (by assumption) | exact lk2 (sb_li (by assumption)) _ | exact fb_l0 (sb_f (by assumption)) | exact fb_l1 (sb_f (by assumption))) ?_
          refine rw_getR F dc_X8_ahead_66 fl_RX8_101 (by first | rfl | assumption | decide | exact r73_k (by assumption) | exact fb_k (by assumption) | exact sb_k (by assumption) | exact tb_k (by assumption) | exact sb_li (by assumption) | exact sb_s (by assumption) | exact tb_n (by assumption) | exact fb_k (sb_f (by assumption))) (by first | rfl | assumption | exact lk6 (by assumption) _ | exact lk2 (by assumption) _ | exact fb_l0 (by assumption) | exact fb_l1 (by assumption) | exact sb_l0 (by assumption) | exact sb_l1 (by assumption) | exact sb_l2 (by assumption) | exact sb_l3 (by assumption) | exact tb_l0 (by assumption) | exact tb_l1 (by assumption) | exact tb_l2 (by assumption) | exact lk2 (sb_li (by assumption)) _ | exact fb_l0 (sb_f (by assumption)) | exact fb_l1 (sb_f (by assumption))) ?_
          refine rw_getR F dc_X8_ahead_69 fl_RX8_123 (by first | rfl | assumption | decide | exact r73_k (by assumption) | exact fb_k (by assumption) | exact sb_k (by assumption) | exact tb_k (by assumption) | exact sb_li (by assumption) | exact sb_s (by assumption) | exact tb_n (by assumption) | exact fb_k (sb_f (by assumption))) (by first | rfl | assumption | exact lk6 (by assumption) _ | exact lk2 (by assumption) _ | exact fb_l0 (by assumption) | exact fb_l1 (by assumption) | exact sb_l0 (by assumption) | exact sb_l1 (by assumption) | exact sb_l2 (by assumption) | exact sb_l3 (by assumption) | exact tb_l0 (by assumption) | exact tb_l1 (by assumption) | exact tb_l2 (by assumption) | exact lk2 (sb_li (by assumption)) _ | exact fb_l0 (sb_f (by assumption)) | exact fb_l1 (sb_f (by assumption))) ?_
          refine rw_iload_n F dc_X8_ahead_72 rfl ?_
          obtain ⟨hs5, hp⟩ := hp
          refine rw_aaShip F dc_X8_ahead_73 (by first | assumption | exact (show _ ∈ tw_fbL by decide) | exact sb_f (by assumption)) hs5 (fun hk6 => ?_)
          refine rw_cVv F [_] dc_X8_ahead_74 mv_X6_take ml_RX8_175 (by decide) (rc_6 (by first | rfl | assumption | decide | exact r73_k (by assumption) | exact fb_k (by assumption) | exact sb_k (by assumption) | exact tb_k (by assumption) | exact sb_li (by assumption) | exact sb_s (by assumption) | exact tb_n (by assumption) | exact fb_k (sb_f (by assumption)))) rfl rfl (Nat.le_of_ble_eq_true rfl) ct_X6_take ?_
          refine rw_aload_n F dc_X8_ahead_77 rfl ?_
          refine rw_getR F dc_X8_ahead_78 fl_RX8_53 (by first | rfl | assumption | decide | exact r73_k (by assumption) | exact fb_k (by assumption) | exact sb_k (by assumption) | exact tb_k (by assumption) | exact sb_li (by assumption) | exact sb_s (by assumption) | exact tb_n (by assumption) | exact fb_k (sb_f (by assumption))) (by first | rfl | assumption | exact lk6 (by assumption) _ | exact lk2 (by assumption) _ | exact fb_l0 (by assumption) | exact fb_l1 (by assumption) | exact sb_l0 (by assumption) | exact sb_l1 (by assumption) | exact sb_l2 (by assumption) | exact sb_l3 (by assumption) | exact tb_l0 (by assumption) | exact tb_l1 (by assumption) | exact tb_l2 (by assumption) | exact lk2 (sb_li (by assumption)) _ | exact fb_l0 (sb_f (by assumption)) | exact fb_l1 (sb_f (by assumption))) ?_
          refine rw_aload_n F dc_X8_ahead_81 rfl ?_
          refine rw_getR F dc_X8_ahead_82 fl_RX8_12 (by first | rfl | assumption | decide | exact r73_k (by assumption) | exact fb_k (by assumption) | exact sb_k (by assumption) | exact tb_k (by assumption) | exact sb_li (by assumption) | exact sb_s (by assumption) | exact tb_n (by assumption) | exact fb_k (sb_f (by assumption))) (by first | rfl | assumption | exact lk6 (by assumption) _ | exact lk2 (by assumption) _ | exact fb_l0 (by assumption) | exact fb_l1 (by assumption) | exact sb_l0 (by assumption) | exact sb_l1 (by assumption) | exact sb_l2 (by assumption) | exact sb_l3 (by assumption) | exact tb_l0 (by assumption) | exact tb_l1 (by assumption) | exact tb_l2 (by assumption) | exact lk2 (sb_li (by assumption)) _ | exact fb_l0 (sb_f (by assumption)) | exact fb_l1 (sb_f (by assumption))) ?_
          refine rw_getR F dc_X8_ahead_85 fl_RX8_87 (by first | rfl | assumption | decide | exact r73_k (by assumption) | exact fb_k (by assumption) | exact sb_k (by assumption) | exact tb_k (by assumption) | exact sb_li (by assumption) | exact sb_s (by assumption) | exact tb_n (by assumption) | exact fb_k (sb_f (by assumption))) (by first | rfl | assumption | exact lk6 (by assumption) _ | exact lk2 (by assumption) _ | exact fb_l0 (by assumption) | exact fb_l1 (by assumption) | exact sb_l0 (by assumption) | exact sb_l1 (by assumption) | exact sb_l2 (by assumption) | exact sb_l3 (by assumption) | exact tb_l0 (by assumption) | exact tb_l1 (by assumption) | exact tb_l2 (by assumption) | exact lk2 (sb_li (by assumption)) _ | exact fb_l0 (sb_f (by assumption)) | exact fb_l1 (sb_f (by assumption))) ?_
          refine rw_iload_n F dc_X8_ahead_88 rfl ?_
          obtain ⟨hs7, hp⟩ := hp
          refine rw_cVv F [_, _] dc_X8_ahead_89 mv_X6_sailOn ml_RX8_179 (by decide) (rc_6 (by first | rfl | assumption | decide | exact r73_k (by assumption) | exact fb_k (by assumption) | exact sb_k (by assumption) | exact tb_k (by assumption) | exact sb_li (by assumption) | exact sb_s (by assumption) | exact tb_n (by assumption) | exact fb_k (sb_f (by assumption)))) rfl rfl (Nat.le_of_ble_eq_true rfl) (cr_X6_sailOn hs7) ?_
          refine rw_aload_n F dc_X8_ahead_92 rfl ?_
          refine rw_getR F dc_X8_ahead_93 fl_RX8_53 (by first | rfl | assumption | decide | exact r73_k (by assumption) | exact fb_k (by assumption) | exact sb_k (by assumption) | exact tb_k (by assumption) | exact sb_li (by assumption) | exact sb_s (by assumption) | exact tb_n (by assumption) | exact fb_k (sb_f (by assumption))) (by first | rfl | assumption | exact lk6 (by assumption) _ | exact lk2 (by assumption) _ | exact fb_l0 (by assumption) | exact fb_l1 (by assumption) | exact sb_l0 (by assumption) | exact sb_l1 (by assumption) | exact sb_l2 (by assumption) | exact sb_l3 (by assumption) | exact tb_l0 (by assumption) | exact tb_l1 (by assumption) | exact tb_l2 (by assumption) | exact lk2 (sb_li (by assumption)) _ | exact fb_l0 (sb_f (by assumption)) | exact fb_l1 (sb_f (by assumption))) ?_
          refine rw_iload_n F dc_X8_ahead_96 rfl ?_
          refine rw_cVi F [_] dc_X8_ahead_97 mv_X6_told ml_RX8_140 (by decide) (rc_6 (by first | rfl | assumption | decide | exact r73_k (by assumption) | exact fb_k (by assumption) | exact sb_k (by assumption) | exact tb_k (by assumption) | exact sb_li (by assumption) | exact sb_s (by assumption) | exact tb_n (by assumption) | exact fb_k (sb_f (by assumption)))) rfl rfl (Nat.le_of_ble_eq_true rfl) ct_X6_told ?_
          refine rw_iret F dc_X8_ahead_100 rfl rfl ?_
          exact ⟨by first | (simp only [f_X8_ahead, g_X8_ahead, if_pos c1, if_neg c2, if_neg c4]; done) | rfl | (simp only [f_X8_ahead, g_X8_ahead, if_pos c1, if_neg c2, if_neg c4]; rfl), by first | (simp only [f_X8_ahead, g_X8_ahead, if_pos c1, if_neg c2, if_neg c4]; done) | rfl | (simp only [f_X8_ahead, g_X8_ahead, if_pos c1, if_neg c2, if_neg c4]; rfl)⟩
        · rw [if_pos c4] at hp
          refine rw_aload_n F dc_X8_ahead_51 rfl ?_
          refine rw_ldc F dc_X8_ahead_52 kc_RX8_82 ?_
          refine rw_cVi F [_] dc_X8_ahead_54 mv_X8_found ml_RX8_83 (by decide) (rc_8 (by first | rfl | assumption | decide | exact r73_k (by assumption) | exact fb_k (by assumption) | exact sb_k (by assumption) | exact tb_k (by assumption) | exact sb_li (by assumption) | exact sb_s (by assumption) | exact tb_n (by assumption) | exact fb_k (sb_f (by assumption)))) rfl rfl (Nat.le_of_ble_eq_true rfl) cn_X8_found ?_
          refine rw_iret F dc_X8_ahead_57 rfl rfl ?_
          exact ⟨by first | (simp only [f_X8_ahead, g_X8_ahead, if_pos c1, if_neg c2, if_pos c4]; done) | rfl | (simp only [f_X8_ahead, g_X8_ahead, if_pos c1, if_neg c2, if_pos c4]; rfl), by first | (simp only [f_X8_ahead, g_X8_ahead, if_pos c1, if_neg c2, if_pos c4]; done) | rfl | (simp only [f_X8_ahead, g_X8_ahead, if_pos c1, if_neg c2, if_pos c4]; rfl)⟩
  · rw [if_neg c1] at hp
    refine rw_iload_n F dc_X8_ahead_5 rfl ?_
    refine rw_iconst (v := 2) F dc_X8_ahead_6 rfl ?_
    refine rw_icmp_eq (tgt := 21) F dc_X8_ahead_7 rfl (fun c8 => ?_) (fun c8 => ?_)
    · rw [if_pos c8] at hp
      refine rw_iconst (v := 1) F dc_X8_ahead_21 rfl ?_
      refine rw_goto (tgt := 26) F dc_X8_ahead_22 rfl ?_
      refine rw_istore F dc_X8_ahead_26 (by decide) rfl ?_
      refine rw_aload_n F dc_X8_ahead_28 rfl ?_
      refine rw_iload_n F dc_X8_ahead_29 rfl ?_
      refine rw_cVi F [_] dc_X8_ahead_30 mv_X8_isShip ml_RX8_119 (by decide) (rc_8 (by first | rfl | assumption | decide | exact r73_k (by assumption) | exact fb_k (by assumption) | exact sb_k (by assumption) | exact tb_k (by assumption) | exact sb_li (by assumption) | exact sb_s (by assumption) | exact tb_n (by assumption) | exact fb_k (sb_f (by assumption)))) rfl rfl (Nat.le_of_ble_eq_true rfl) ct_X8_isShip ?_
      refine rw_if_eq (tgt := 51) F dc_X8_ahead_33 rfl (fun c9 => ?_) (fun c9 => ?_)
      · rw [if_pos c9] at hp
        refine rw_aload_n F dc_X8_ahead_51 rfl ?_
        refine rw_ldc F dc_X8_ahead_52 kc_RX8_82 ?_
        refine rw_cVi F [_] dc_X8_ahead_54 mv_X8_found ml_RX8_83 (by decide) (rc_8 (by first | rfl | assumption | decide | exact r73_k (by assumption) | exact fb_k (by assumption) | exact sb_k (by assumption) | exact tb_k (by assumption) | exact sb_li (by assumption) | exact sb_s (by assumption) | exact tb_n (by assumption) | exact fb_k (sb_f (by assumption)))) rfl rfl (Nat.le_of_ble_eq_true rfl) cn_X8_found ?_
        refine rw_iret F dc_X8_ahead_57 rfl rfl ?_
        exact ⟨by first | (simp only [f_X8_ahead, g_X8_ahead, if_neg c1, if_pos c8, if_pos c9]; done) | rfl | (simp only [f_X8_ahead, g_X8_ahead, if_neg c1, if_pos c8, if_pos c9]; rfl), by first | (simp only [f_X8_ahead, g_X8_ahead, if_neg c1, if_pos c8, if_pos c9]; done) | rfl | (simp only [f_X8_ahead, g_X8_ahead, if_neg c1, if_pos c8, if_pos c9]; rfl)⟩
      · rw [if_neg c9] at hp
        refine rw_iload F dc_X8_ahead_36 rfl ?_
        refine rw_if_eq (tgt := 51) F dc_X8_ahead_38 rfl (fun c10 => ?_) (fun c10 => ?_)
        · exact absurd c10 (by decide)
        · refine rw_iload_n F dc_X8_ahead_41 rfl ?_
          refine rw_iconst (v := 0) F dc_X8_ahead_42 rfl ?_
          refine rw_bipush (v := 100) F dc_X8_ahead_43 rfl ?_
          refine rw_cSi F [_, _, _] dc_X8_ahead_45 ms_X8_within ml_RX8_97 (by decide)  rfl rfl (Nat.le_of_ble_eq_true rfl) ct_X8_within ?_
          refine rw_if_ne (tgt := 58) F dc_X8_ahead_48 rfl (fun c11 => ?_) (fun c11 => ?_)
          · rw [if_neg c11] at hp
            refine rw_aload_n F dc_X8_ahead_58 rfl ?_
            refine rw_getR F dc_X8_ahead_59 fl_RX8_53 (by first | rfl | assumption | decide | exact r73_k (by assumption) | exact fb_k (by assumption) | exact sb_k (by assumption) | exact tb_k (by assumption) | exact sb_li (by assumption) | exact sb_s (by assumption) | exact tb_n (by assumption) | exact fb_k (sb_f (by assumption))) (by first | rfl | assumption | exact lk6 (by assumption) _ | exact lk2 (by assumption) _ | exact fb_l0 (by assumption) | exact fb_l1 (by assumption) | exact sb_l0 (by assumption) | exact sb_l1 (by assumption) | exact sb_l2 (by assumption) | exact sb_l3 (by assumption) | exact tb_l0 (by assumption) | exact tb_l1 (by assumption) | exact tb_l2 (by assumption) | exact lk2 (sb_li (by assumption)) _ | exact fb_l0 (sb_f (by assumption)) | exact fb_l1 (sb_f (by assumption))) ?_
            refine rw_aload_n F dc_X8_ahead_62 rfl ?_
            refine rw_getR F dc_X8_ahead_63 fl_RX8_12 (by first | rfl | assumption | decide | exact r73_k (by assumption) | exact fb_k (by assumption) | exact sb_k (by assumption) | exact tb_k (by assumption) | exact sb_li (by assumption) | exact sb_s (by assumption) | exact tb_n (by assumption) | exact fb_k (sb_f (by assumption))) (by first | rfl | assumption | exact lk6 (by assumption) _ | exact lk2 (by assumption) _ | exact fb_l0 (by assumption) | exact fb_l1 (by assumption) | exact sb_l0 (by assumption) | exact sb_l1 (by assumption) | exact sb_l2 (by assumption) | exact sb_l3 (by assumption) | exact tb_l0 (by assumption) | exact tb_l1 (by assumption) | exact tb_l2 (by assumption) | exact lk2 (sb_li (by assumption)) _ | exact fb_l0 (sb_f (by assumption)) | exact fb_l1 (sb_f (by assumption))) ?_
            refine rw_getR F dc_X8_ahead_66 fl_RX8_101 (by first | rfl | assumption | decide | exact r73_k (by assumption) | exact fb_k (by assumption) | exact sb_k (by assumption) | exact tb_k (by assumption) | exact sb_li (by assumption) | exact sb_s (by assumption) | exact tb_n (by assumption) | exact fb_k (sb_f (by assumption))) (by first | rfl | assumption | exact lk6 (by assumption) _ | exact lk2 (by assumption) _ | exact fb_l0 (by assumption) | exact fb_l1 (by assumption) | exact sb_l0 (by assumption) | exact sb_l1 (by assumption) | exact sb_l2 (by assumption) | exact sb_l3 (by assumption) | exact tb_l0 (by assumption) | exact tb_l1 (by assumption) | exact tb_l2 (by assumption) | exact lk2 (sb_li (by assumption)) _ | exact fb_l0 (sb_f (by assumption)) | exact fb_l1 (sb_f (by assumption))) ?_
            refine rw_getR F dc_X8_ahead_69 fl_RX8_123 (by first | rfl | assumption | decide | exact r73_k (by assumption) | exact fb_k (by assumption) | exact sb_k (by assumption) | exact tb_k (by assumption) | exact sb_li (by assumption) | exact sb_s (by assumption) | exact tb_n (by assumption) | exact fb_k (sb_f (by assumption))) (by first | rfl | assumption | exact lk6 (by assumption) _ | exact lk2 (by assumption) _ | exact fb_l0 (by assumption) | exact fb_l1 (by assumption) | exact sb_l0 (by assumption) | exact sb_l1 (by assumption) | exact sb_l2 (by assumption) | exact sb_l3 (by assumption) | exact tb_l0 (by assumption) | exact tb_l1 (by assumption) | exact tb_l2 (by assumption) | exact lk2 (sb_li (by assumption)) _ | exact fb_l0 (sb_f (by assumption)) | exact fb_l1 (sb_f (by assumption))) ?_
            refine rw_iload_n F dc_X8_ahead_72 rfl ?_
            obtain ⟨hs12, hp⟩ := hp
            refine rw_aaShip F dc_X8_ahead_73 (by first | assumption | exact (show _ ∈ tw_fbL by decide) | exact sb_f (by assumption)) hs12 (fun hk13 => ?_)
            refine rw_cVv F [_] dc_X8_ahead_74 mv_X6_take ml_RX8_175 (by decide) (rc_6 (by first | rfl | assumption | decide | exact r73_k (by assumption) | exact fb_k (by assumption) | exact sb_k (by assumption) | exact tb_k (by assumption) | exact sb_li (by assumption) | exact sb_s (by assumption) | exact tb_n (by assumption) | exact fb_k (sb_f (by assumption)))) rfl rfl (Nat.le_of_ble_eq_true rfl) ct_X6_take ?_
            refine rw_aload_n F dc_X8_ahead_77 rfl ?_
            refine rw_getR F dc_X8_ahead_78 fl_RX8_53 (by first | rfl | assumption | decide | exact r73_k (by assumption) | exact fb_k (by assumption) | exact sb_k (by assumption) | exact tb_k (by assumption) | exact sb_li (by assumption) | exact sb_s (by assumption) | exact tb_n (by assumption) | exact fb_k (sb_f (by assumption))) (by first | rfl | assumption | exact lk6 (by assumption) _ | exact lk2 (by assumption) _ | exact fb_l0 (by assumption) | exact fb_l1 (by assumption) | exact sb_l0 (by assumption) | exact sb_l1 (by assumption) | exact sb_l2 (by assumption) | exact sb_l3 (by assumption) | exact tb_l0 (by assumption) | exact tb_l1 (by assumption) | exact tb_l2 (by assumption) | exact lk2 (sb_li (by assumption)) _ | exact fb_l0 (sb_f (by assumption)) | exact fb_l1 (sb_f (by assumption))) ?_
            refine rw_aload_n F dc_X8_ahead_81 rfl ?_
            refine rw_getR F dc_X8_ahead_82 fl_RX8_12 (by first | rfl | assumption | decide | exact r73_k (by assumption) | exact fb_k (by assumption) | exact sb_k (by assumption) | exact tb_k (by assumption) | exact sb_li (by assumption) | exact sb_s (by assumption) | exact tb_n (by assumption) | exact fb_k (sb_f (by assumption))) (by first | rfl | assumption | exact lk6 (by assumption) _ | exact lk2 (by assumption) _ | exact fb_l0 (by assumption) | exact fb_l1 (by assumption) | exact sb_l0 (by assumption) | exact sb_l1 (by assumption) | exact sb_l2 (by assumption) | exact sb_l3 (by assumption) | exact tb_l0 (by assumption) | exact tb_l1 (by assumption) | exact tb_l2 (by assumption) | exact lk2 (sb_li (by assumption)) _ | exact fb_l0 (sb_f (by assumption)) | exact fb_l1 (sb_f (by assumption))) ?_
            refine rw_getR F dc_X8_ahead_85 fl_RX8_87 (by first | rfl | assumption | decide | exact r73_k (by assumption) | exact fb_k (by assumption) | exact sb_k (by assumption) | exact tb_k (by assumption) | exact sb_li (by assumption) | exact sb_s (by assumption) | exact tb_n (by assumption) | exact fb_k (sb_f (by assumption))) (by first | rfl | assumption | exact lk6 (by assumption) _ | exact lk2 (by assumption) _ | exact fb_l0 (by assumption) | exact fb_l1 (by assumption) | exact sb_l0 (by assumption) | exact sb_l1 (by assumption) | exact sb_l2 (by assumption) | exact sb_l3 (by assumption) | exact tb_l0 (by assumption) | exact tb_l1 (by assumption) | exact tb_l2 (by assumption) | exact lk2 (sb_li (by assumption)) _ | exact fb_l0 (sb_f (by assumption)) | exact fb_l1 (sb_f (by assumption))) ?_
            refine rw_iload_n F dc_X8_ahead_88 rfl ?_
            obtain ⟨hs14, hp⟩ := hp
            refine rw_cVv F [_, _] dc_X8_ahead_89 mv_X6_sailOn ml_RX8_179 (by decide) (rc_6 (by first | rfl | assumption | decide | exact r73_k (by assumption) | exact fb_k (by assumption) | exact sb_k (by assumption) | exact tb_k (by assumption) | exact sb_li (by assumption) | exact sb_s (by assumption) | exact tb_n (by assumption) | exact fb_k (sb_f (by assumption)))) rfl rfl (Nat.le_of_ble_eq_true rfl) (cr_X6_sailOn hs14) ?_
            refine rw_aload_n F dc_X8_ahead_92 rfl ?_
            refine rw_getR F dc_X8_ahead_93 fl_RX8_53 (by first | rfl | assumption | decide | exact r73_k (by assumption) | exact fb_k (by assumption) | exact sb_k (by assumption) | exact tb_k (by assumption) | exact sb_li (by assumption) | exact sb_s (by assumption) | exact tb_n (by assumption) | exact fb_k (sb_f (by assumption))) (by first | rfl | assumption | exact lk6 (by assumption) _ | exact lk2 (by assumption) _ | exact fb_l0 (by assumption) | exact fb_l1 (by assumption) | exact sb_l0 (by assumption) | exact sb_l1 (by assumption) | exact sb_l2 (by assumption) | exact sb_l3 (by assumption) | exact tb_l0 (by assumption) | exact tb_l1 (by assumption) | exact tb_l2 (by assumption) | exact lk2 (sb_li (by assumption)) _ | exact fb_l0 (sb_f (by assumption)) | exact fb_l1 (sb_f (by assumption))) ?_
            refine rw_iload_n F dc_X8_ahead_96 rfl ?_
            refine rw_cVi F [_] dc_X8_ahead_97 mv_X6_told ml_RX8_140 (by decide) (rc_6 (by first | rfl | assumption | decide | exact r73_k (by assumption) | exact fb_k (by assumption) | exact sb_k (by assumption) | exact tb_k (by assumption) | exact sb_li (by assumption) | exact sb_s (by assumption) | exact tb_n (by assumption) | exact fb_k (sb_f (by assumption)))) rfl rfl (Nat.le_of_ble_eq_true rfl) ct_X6_told ?_
            refine rw_iret F dc_X8_ahead_100 rfl rfl ?_
            exact ⟨by first | (simp only [f_X8_ahead, g_X8_ahead, if_neg c1, if_pos c8, if_neg c9, if_neg c11]; done) | rfl | (simp only [f_X8_ahead, g_X8_ahead, if_neg c1, if_pos c8, if_neg c9, if_neg c11]; rfl), by first | (simp only [f_X8_ahead, g_X8_ahead, if_neg c1, if_pos c8, if_neg c9, if_neg c11]; done) | rfl | (simp only [f_X8_ahead, g_X8_ahead, if_neg c1, if_pos c8, if_neg c9, if_neg c11]; rfl)⟩
          · rw [if_pos c11] at hp
            refine rw_aload_n F dc_X8_ahead_51 rfl ?_
            refine rw_ldc F dc_X8_ahead_52 kc_RX8_82 ?_
            refine rw_cVi F [_] dc_X8_ahead_54 mv_X8_found ml_RX8_83 (by decide) (rc_8 (by first | rfl | assumption | decide | exact r73_k (by assumption) | exact fb_k (by assumption) | exact sb_k (by assumption) | exact tb_k (by assumption) | exact sb_li (by assumption) | exact sb_s (by assumption) | exact tb_n (by assumption) | exact fb_k (sb_f (by assumption)))) rfl rfl (Nat.le_of_ble_eq_true rfl) cn_X8_found ?_
            refine rw_iret F dc_X8_ahead_57 rfl rfl ?_
            exact ⟨by first | (simp only [f_X8_ahead, g_X8_ahead, if_neg c1, if_pos c8, if_neg c9, if_pos c11]; done) | rfl | (simp only [f_X8_ahead, g_X8_ahead, if_neg c1, if_pos c8, if_neg c9, if_pos c11]; rfl), by first | (simp only [f_X8_ahead, g_X8_ahead, if_neg c1, if_pos c8, if_neg c9, if_pos c11]; done) | rfl | (simp only [f_X8_ahead, g_X8_ahead, if_neg c1, if_pos c8, if_neg c9, if_pos c11]; rfl)⟩
    · rw [if_neg c8] at hp
      refine rw_iload_n F dc_X8_ahead_10 rfl ?_
      refine rw_iconst (v := 5) F dc_X8_ahead_11 rfl ?_
      refine rw_icmp_eq (tgt := 21) F dc_X8_ahead_12 rfl (fun c15 => ?_) (fun c15 => ?_)
      · rw [if_pos c15] at hp
        refine rw_iconst (v := 1) F dc_X8_ahead_21 rfl ?_
        refine rw_goto (tgt := 26) F dc_X8_ahead_22 rfl ?_
        refine rw_istore F dc_X8_ahead_26 (by decide) rfl ?_
        refine rw_aload_n F dc_X8_ahead_28 rfl ?_
        refine rw_iload_n F dc_X8_ahead_29 rfl ?_
        refine rw_cVi F [_] dc_X8_ahead_30 mv_X8_isShip ml_RX8_119 (by decide) (rc_8 (by first | rfl | assumption | decide | exact r73_k (by assumption) | exact fb_k (by assumption) | exact sb_k (by assumption) | exact tb_k (by assumption) | exact sb_li (by assumption) | exact sb_s (by assumption) | exact tb_n (by assumption) | exact fb_k (sb_f (by assumption)))) rfl rfl (Nat.le_of_ble_eq_true rfl) ct_X8_isShip ?_
        refine rw_if_eq (tgt := 51) F dc_X8_ahead_33 rfl (fun c16 => ?_) (fun c16 => ?_)
        · rw [if_pos c16] at hp
          refine rw_aload_n F dc_X8_ahead_51 rfl ?_
          refine rw_ldc F dc_X8_ahead_52 kc_RX8_82 ?_
          refine rw_cVi F [_] dc_X8_ahead_54 mv_X8_found ml_RX8_83 (by decide) (rc_8 (by first | rfl | assumption | decide | exact r73_k (by assumption) | exact fb_k (by assumption) | exact sb_k (by assumption) | exact tb_k (by assumption) | exact sb_li (by assumption) | exact sb_s (by assumption) | exact tb_n (by assumption) | exact fb_k (sb_f (by assumption)))) rfl rfl (Nat.le_of_ble_eq_true rfl) cn_X8_found ?_
          refine rw_iret F dc_X8_ahead_57 rfl rfl ?_
          exact ⟨by first | (simp only [f_X8_ahead, g_X8_ahead, if_neg c1, if_neg c8, if_pos c15, if_pos c16]; done) | rfl | (simp only [f_X8_ahead, g_X8_ahead, if_neg c1, if_neg c8, if_pos c15, if_pos c16]; rfl), by first | (simp only [f_X8_ahead, g_X8_ahead, if_neg c1, if_neg c8, if_pos c15, if_pos c16]; done) | rfl | (simp only [f_X8_ahead, g_X8_ahead, if_neg c1, if_neg c8, if_pos c15, if_pos c16]; rfl)⟩
        · rw [if_neg c16] at hp
          refine rw_iload F dc_X8_ahead_36 rfl ?_
          refine rw_if_eq (tgt := 51) F dc_X8_ahead_38 rfl (fun c17 => ?_) (fun c17 => ?_)
          · exact absurd c17 (by decide)
          · refine rw_iload_n F dc_X8_ahead_41 rfl ?_
            refine rw_iconst (v := 0) F dc_X8_ahead_42 rfl ?_
            refine rw_bipush (v := 100) F dc_X8_ahead_43 rfl ?_
            refine rw_cSi F [_, _, _] dc_X8_ahead_45 ms_X8_within ml_RX8_97 (by decide)  rfl rfl (Nat.le_of_ble_eq_true rfl) ct_X8_within ?_
            refine rw_if_ne (tgt := 58) F dc_X8_ahead_48 rfl (fun c18 => ?_) (fun c18 => ?_)
            · rw [if_neg c18] at hp
              refine rw_aload_n F dc_X8_ahead_58 rfl ?_
              refine rw_getR F dc_X8_ahead_59 fl_RX8_53 (by first | rfl | assumption | decide | exact r73_k (by assumption) | exact fb_k (by assumption) | exact sb_k (by assumption) | exact tb_k (by assumption) | exact sb_li (by assumption) | exact sb_s (by assumption) | exact tb_n (by assumption) | exact fb_k (sb_f (by assumption))) (by first | rfl | assumption | exact lk6 (by assumption) _ | exact lk2 (by assumption) _ | exact fb_l0 (by assumption) | exact fb_l1 (by assumption) | exact sb_l0 (by assumption) | exact sb_l1 (by assumption) | exact sb_l2 (by assumption) | exact sb_l3 (by assumption) | exact tb_l0 (by assumption) | exact tb_l1 (by assumption) | exact tb_l2 (by assumption) | exact lk2 (sb_li (by assumption)) _ | exact fb_l0 (sb_f (by assumption)) | exact fb_l1 (sb_f (by assumption))) ?_
              refine rw_aload_n F dc_X8_ahead_62 rfl ?_
              refine rw_getR F dc_X8_ahead_63 fl_RX8_12 (by first | rfl | assumption | decide | exact r73_k (by assumption) | exact fb_k (by assumption) | exact sb_k (by assumption) | exact tb_k (by assumption) | exact sb_li (by assumption) | exact sb_s (by assumption) | exact tb_n (by assumption) | exact fb_k (sb_f (by assumption))) (by first | rfl | assumption | exact lk6 (by assumption) _ | exact lk2 (by assumption) _ | exact fb_l0 (by assumption) | exact fb_l1 (by assumption) | exact sb_l0 (by assumption) | exact sb_l1 (by assumption) | exact sb_l2 (by assumption) | exact sb_l3 (by assumption) | exact tb_l0 (by assumption) | exact tb_l1 (by assumption) | exact tb_l2 (by assumption) | exact lk2 (sb_li (by assumption)) _ | exact fb_l0 (sb_f (by assumption)) | exact fb_l1 (sb_f (by assumption))) ?_
              refine rw_getR F dc_X8_ahead_66 fl_RX8_101 (by first | rfl | assumption | decide | exact r73_k (by assumption) | exact fb_k (by assumption) | exact sb_k (by assumption) | exact tb_k (by assumption) | exact sb_li (by assumption) | exact sb_s (by assumption) | exact tb_n (by assumption) | exact fb_k (sb_f (by assumption))) (by first | rfl | assumption | exact lk6 (by assumption) _ | exact lk2 (by assumption) _ | exact fb_l0 (by assumption) | exact fb_l1 (by assumption) | exact sb_l0 (by assumption) | exact sb_l1 (by assumption) | exact sb_l2 (by assumption) | exact sb_l3 (by assumption) | exact tb_l0 (by assumption) | exact tb_l1 (by assumption) | exact tb_l2 (by assumption) | exact lk2 (sb_li (by assumption)) _ | exact fb_l0 (sb_f (by assumption)) | exact fb_l1 (sb_f (by assumption))) ?_
              refine rw_getR F dc_X8_ahead_69 fl_RX8_123 (by first | rfl | assumption | decide | exact r73_k (by assumption) | exact fb_k (by assumption) | exact sb_k (by assumption) | exact tb_k (by assumption) | exact sb_li (by assumption) | exact sb_s (by assumption) | exact tb_n (by assumption) | exact fb_k (sb_f (by assumption))) (by first | rfl | assumption | exact lk6 (by assumption) _ | exact lk2 (by assumption) _ | exact fb_l0 (by assumption) | exact fb_l1 (by assumption) | exact sb_l0 (by assumption) | exact sb_l1 (by assumption) | exact sb_l2 (by assumption) | exact sb_l3 (by assumption) | exact tb_l0 (by assumption) | exact tb_l1 (by assumption) | exact tb_l2 (by assumption) | exact lk2 (sb_li (by assumption)) _ | exact fb_l0 (sb_f (by assumption)) | exact fb_l1 (sb_f (by assumption))) ?_
              refine rw_iload_n F dc_X8_ahead_72 rfl ?_
              obtain ⟨hs19, hp⟩ := hp
              refine rw_aaShip F dc_X8_ahead_73 (by first | assumption | exact (show _ ∈ tw_fbL by decide) | exact sb_f (by assumption)) hs19 (fun hk20 => ?_)
              refine rw_cVv F [_] dc_X8_ahead_74 mv_X6_take ml_RX8_175 (by decide) (rc_6 (by first | rfl | assumption | decide | exact r73_k (by assumption) | exact fb_k (by assumption) | exact sb_k (by assumption) | exact tb_k (by assumption) | exact sb_li (by assumption) | exact sb_s (by assumption) | exact tb_n (by assumption) | exact fb_k (sb_f (by assumption)))) rfl rfl (Nat.le_of_ble_eq_true rfl) ct_X6_take ?_
              refine rw_aload_n F dc_X8_ahead_77 rfl ?_
              refine rw_getR F dc_X8_ahead_78 fl_RX8_53 (by first | rfl | assumption | decide | exact r73_k (by assumption) | exact fb_k (by assumption) | exact sb_k (by assumption) | exact tb_k (by assumption) | exact sb_li (by assumption) | exact sb_s (by assumption) | exact tb_n (by assumption) | exact fb_k (sb_f (by assumption))) (by first | rfl | assumption | exact lk6 (by assumption) _ | exact lk2 (by assumption) _ | exact fb_l0 (by assumption) | exact fb_l1 (by assumption) | exact sb_l0 (by assumption) | exact sb_l1 (by assumption) | exact sb_l2 (by assumption) | exact sb_l3 (by assumption) | exact tb_l0 (by assumption) | exact tb_l1 (by assumption) | exact tb_l2 (by assumption) | exact lk2 (sb_li (by assumption)) _ | exact fb_l0 (sb_f (by assumption)) | exact fb_l1 (sb_f (by assumption))) ?_
              refine rw_aload_n F dc_X8_ahead_81 rfl ?_
              refine rw_getR F dc_X8_ahead_82 fl_RX8_12 (by first | rfl | assumption | decide | exact r73_k (by assumption) | exact fb_k (by assumption) | exact sb_k (by assumption) | exact tb_k (by assumption) | exact sb_li (by assumption) | exact sb_s (by assumption) | exact tb_n (by assumption) | exact fb_k (sb_f (by assumption))) (by first | rfl | assumption | exact lk6 (by assumption) _ | exact lk2 (by assumption) _ | exact fb_l0 (by assumption) | exact fb_l1 (by assumption) | exact sb_l0 (by assumption) | exact sb_l1 (by assumption) | exact sb_l2 (by assumption) | exact sb_l3 (by assumption) | exact tb_l0 (by assumption) | exact tb_l1 (by assumption) | exact tb_l2 (by assumption) | exact lk2 (sb_li (by assumption)) _ | exact fb_l0 (sb_f (by assumption)) | exact fb_l1 (sb_f (by assumption))) ?_
              refine rw_getR F dc_X8_ahead_85 fl_RX8_87 (by first | rfl | assumption | decide | exact r73_k (by assumption) | exact fb_k (by assumption) | exact sb_k (by assumption) | exact tb_k (by assumption) | exact sb_li (by assumption) | exact sb_s (by assumption) | exact tb_n (by assumption) | exact fb_k (sb_f (by assumption))) (by first | rfl | assumption | exact lk6 (by assumption) _ | exact lk2 (by assumption) _ | exact fb_l0 (by assumption) | exact fb_l1 (by assumption) | exact sb_l0 (by assumption) | exact sb_l1 (by assumption) | exact sb_l2 (by assumption) | exact sb_l3 (by assumption) | exact tb_l0 (by assumption) | exact tb_l1 (by assumption) | exact tb_l2 (by assumption) | exact lk2 (sb_li (by assumption)) _ | exact fb_l0 (sb_f (by assumption)) | exact fb_l1 (sb_f (by assumption))) ?_
              refine rw_iload_n F dc_X8_ahead_88 rfl ?_
              obtain ⟨hs21, hp⟩ := hp
              refine rw_cVv F [_, _] dc_X8_ahead_89 mv_X6_sailOn ml_RX8_179 (by decide) (rc_6 (by first | rfl | assumption | decide | exact r73_k (by assumption) | exact fb_k (by assumption) | exact sb_k (by assumption) | exact tb_k (by assumption) | exact sb_li (by assumption) | exact sb_s (by assumption) | exact tb_n (by assumption) | exact fb_k (sb_f (by assumption)))) rfl rfl (Nat.le_of_ble_eq_true rfl) (cr_X6_sailOn hs21) ?_
              refine rw_aload_n F dc_X8_ahead_92 rfl ?_
              refine rw_getR F dc_X8_ahead_93 fl_RX8_53 (by first | rfl | assumption | decide | exact r73_k (by assumption) | exact fb_k (by assumption) | exact sb_k (by assumption) | exact tb_k (by assumption) | exact sb_li (by assumption) | exact sb_s (by assumption) | exact tb_n (by assumption) | exact fb_k (sb_f (by assumption))) (by first | rfl | assumption | exact lk6 (by assumption) _ | exact lk2 (by assumption) _ | exact fb_l0 (by assumption) | exact fb_l1 (by assumption) | exact sb_l0 (by assumption) | exact sb_l1 (by assumption) | exact sb_l2 (by assumption) | exact sb_l3 (by assumption) | exact tb_l0 (by assumption) | exact tb_l1 (by assumption) | exact tb_l2 (by assumption) | exact lk2 (sb_li (by assumption)) _ | exact fb_l0 (sb_f (by assumption)) | exact fb_l1 (sb_f (by assumption))) ?_
              refine rw_iload_n F dc_X8_ahead_96 rfl ?_
              refine rw_cVi F [_] dc_X8_ahead_97 mv_X6_told ml_RX8_140 (by decide) (rc_6 (by first | rfl | assumption | decide | exact r73_k (by assumption) | exact fb_k (by assumption) | exact sb_k (by assumption) | exact tb_k (by assumption) | exact sb_li (by assumption) | exact sb_s (by assumption) | exact tb_n (by assumption) | exact fb_k (sb_f (by assumption)))) rfl rfl (Nat.le_of_ble_eq_true rfl) ct_X6_told ?_
              refine rw_iret F dc_X8_ahead_100 rfl rfl ?_
              exact ⟨by first | (simp only [f_X8_ahead, g_X8_ahead, if_neg c1, if_neg c8, if_pos c15, if_neg c16, if_neg c18]; done) | rfl | (simp only [f_X8_ahead, g_X8_ahead, if_neg c1, if_neg c8, if_pos c15, if_neg c16, if_neg c18]; rfl), by first | (simp only [f_X8_ahead, g_X8_ahead, if_neg c1, if_neg c8, if_pos c15, if_neg c16, if_neg c18]; done) | rfl | (simp only [f_X8_ahead, g_X8_ahead, if_neg c1, if_neg c8, if_pos c15, if_neg c16, if_neg c18]; rfl)⟩
            · rw [if_pos c18] at hp
              refine rw_aload_n F dc_X8_ahead_51 rfl ?_
              refine rw_ldc F dc_X8_ahead_52 kc_RX8_82 ?_
              refine rw_cVi F [_] dc_X8_ahead_54 mv_X8_found ml_RX8_83 (by decide) (rc_8 (by first | rfl | assumption | decide | exact r73_k (by assumption) | exact fb_k (by assumption) | exact sb_k (by assumption) | exact tb_k (by assumption) | exact sb_li (by assumption) | exact sb_s (by assumption) | exact tb_n (by assumption) | exact fb_k (sb_f (by assumption)))) rfl rfl (Nat.le_of_ble_eq_true rfl) cn_X8_found ?_
              refine rw_iret F dc_X8_ahead_57 rfl rfl ?_
              exact ⟨by first | (simp only [f_X8_ahead, g_X8_ahead, if_neg c1, if_neg c8, if_pos c15, if_neg c16, if_pos c18]; done) | rfl | (simp only [f_X8_ahead, g_X8_ahead, if_neg c1, if_neg c8, if_pos c15, if_neg c16, if_pos c18]; rfl), by first | (simp only [f_X8_ahead, g_X8_ahead, if_neg c1, if_neg c8, if_pos c15, if_neg c16, if_pos c18]; done) | rfl | (simp only [f_X8_ahead, g_X8_ahead, if_neg c1, if_neg c8, if_pos c15, if_neg c16, if_pos c18]; rfl)⟩
      · rw [if_neg c15] at hp
        refine rw_iload_n F dc_X8_ahead_15 rfl ?_
        refine rw_bipush (v := 6) F dc_X8_ahead_16 rfl ?_
        refine rw_icmp_ne (tgt := 25) F dc_X8_ahead_18 rfl (fun c22 => ?_) (fun c22 => ?_)
        · rw [if_neg c22] at hp
          refine rw_iconst (v := 0) F dc_X8_ahead_25 rfl ?_
          refine rw_istore F dc_X8_ahead_26 (by decide) rfl ?_
          refine rw_aload_n F dc_X8_ahead_28 rfl ?_
          refine rw_iload_n F dc_X8_ahead_29 rfl ?_
          refine rw_cVi F [_] dc_X8_ahead_30 mv_X8_isShip ml_RX8_119 (by decide) (rc_8 (by first | rfl | assumption | decide | exact r73_k (by assumption) | exact fb_k (by assumption) | exact sb_k (by assumption) | exact tb_k (by assumption) | exact sb_li (by assumption) | exact sb_s (by assumption) | exact tb_n (by assumption) | exact fb_k (sb_f (by assumption)))) rfl rfl (Nat.le_of_ble_eq_true rfl) ct_X8_isShip ?_
          refine rw_if_eq (tgt := 51) F dc_X8_ahead_33 rfl (fun c23 => ?_) (fun c23 => ?_)
          · refine rw_aload_n F dc_X8_ahead_51 rfl ?_
            refine rw_ldc F dc_X8_ahead_52 kc_RX8_82 ?_
            refine rw_cVi F [_] dc_X8_ahead_54 mv_X8_found ml_RX8_83 (by decide) (rc_8 (by first | rfl | assumption | decide | exact r73_k (by assumption) | exact fb_k (by assumption) | exact sb_k (by assumption) | exact tb_k (by assumption) | exact sb_li (by assumption) | exact sb_s (by assumption) | exact tb_n (by assumption) | exact fb_k (sb_f (by assumption)))) rfl rfl (Nat.le_of_ble_eq_true rfl) cn_X8_found ?_
            refine rw_iret F dc_X8_ahead_57 rfl rfl ?_
            exact ⟨by first | (simp only [f_X8_ahead, g_X8_ahead, if_neg c1, if_neg c8, if_neg c15, if_neg c22, if_pos c23]; done) | rfl | (simp only [f_X8_ahead, g_X8_ahead, if_neg c1, if_neg c8, if_neg c15, if_neg c22, if_pos c23]; rfl), by first | (simp only [f_X8_ahead, g_X8_ahead, if_neg c1, if_neg c8, if_neg c15, if_neg c22, if_pos c23]; done) | rfl | (simp only [f_X8_ahead, g_X8_ahead, if_neg c1, if_neg c8, if_neg c15, if_neg c22, if_pos c23]; rfl)⟩
          · refine rw_iload F dc_X8_ahead_36 rfl ?_
            refine rw_if_eq (tgt := 51) F dc_X8_ahead_38 rfl (fun c24 => ?_) (fun c24 => ?_)
            · refine rw_aload_n F dc_X8_ahead_51 rfl ?_
              refine rw_ldc F dc_X8_ahead_52 kc_RX8_82 ?_
              refine rw_cVi F [_] dc_X8_ahead_54 mv_X8_found ml_RX8_83 (by decide) (rc_8 (by first | rfl | assumption | decide | exact r73_k (by assumption) | exact fb_k (by assumption) | exact sb_k (by assumption) | exact tb_k (by assumption) | exact sb_li (by assumption) | exact sb_s (by assumption) | exact tb_n (by assumption) | exact fb_k (sb_f (by assumption)))) rfl rfl (Nat.le_of_ble_eq_true rfl) cn_X8_found ?_
              refine rw_iret F dc_X8_ahead_57 rfl rfl ?_
              exact ⟨by first | (simp only [f_X8_ahead, g_X8_ahead, if_neg c1, if_neg c8, if_neg c15, if_neg c22, if_neg c23]; done) | rfl | (simp only [f_X8_ahead, g_X8_ahead, if_neg c1, if_neg c8, if_neg c15, if_neg c22, if_neg c23]; rfl), by first | (simp only [f_X8_ahead, g_X8_ahead, if_neg c1, if_neg c8, if_neg c15, if_neg c22, if_neg c23]; done) | rfl | (simp only [f_X8_ahead, g_X8_ahead, if_neg c1, if_neg c8, if_neg c15, if_neg c22, if_neg c23]; rfl)⟩
            · exact absurd c24 (by decide)
        · rw [if_pos c22] at hp
          refine rw_iconst (v := 1) F dc_X8_ahead_21 rfl ?_
          refine rw_goto (tgt := 26) F dc_X8_ahead_22 rfl ?_
          refine rw_istore F dc_X8_ahead_26 (by decide) rfl ?_
          refine rw_aload_n F dc_X8_ahead_28 rfl ?_
          refine rw_iload_n F dc_X8_ahead_29 rfl ?_
          refine rw_cVi F [_] dc_X8_ahead_30 mv_X8_isShip ml_RX8_119 (by decide) (rc_8 (by first | rfl | assumption | decide | exact r73_k (by assumption) | exact fb_k (by assumption) | exact sb_k (by assumption) | exact tb_k (by assumption) | exact sb_li (by assumption) | exact sb_s (by assumption) | exact tb_n (by assumption) | exact fb_k (sb_f (by assumption)))) rfl rfl (Nat.le_of_ble_eq_true rfl) ct_X8_isShip ?_
          refine rw_if_eq (tgt := 51) F dc_X8_ahead_33 rfl (fun c25 => ?_) (fun c25 => ?_)
          · rw [if_pos c25] at hp
            refine rw_aload_n F dc_X8_ahead_51 rfl ?_
            refine rw_ldc F dc_X8_ahead_52 kc_RX8_82 ?_
            refine rw_cVi F [_] dc_X8_ahead_54 mv_X8_found ml_RX8_83 (by decide) (rc_8 (by first | rfl | assumption | decide | exact r73_k (by assumption) | exact fb_k (by assumption) | exact sb_k (by assumption) | exact tb_k (by assumption) | exact sb_li (by assumption) | exact sb_s (by assumption) | exact tb_n (by assumption) | exact fb_k (sb_f (by assumption)))) rfl rfl (Nat.le_of_ble_eq_true rfl) cn_X8_found ?_
            refine rw_iret F dc_X8_ahead_57 rfl rfl ?_
            exact ⟨by first | (simp only [f_X8_ahead, g_X8_ahead, if_neg c1, if_neg c8, if_neg c15, if_pos c22, if_pos c25]; done) | rfl | (simp only [f_X8_ahead, g_X8_ahead, if_neg c1, if_neg c8, if_neg c15, if_pos c22, if_pos c25]; rfl), by first | (simp only [f_X8_ahead, g_X8_ahead, if_neg c1, if_neg c8, if_neg c15, if_pos c22, if_pos c25]; done) | rfl | (simp only [f_X8_ahead, g_X8_ahead, if_neg c1, if_neg c8, if_neg c15, if_pos c22, if_pos c25]; rfl)⟩
          · rw [if_neg c25] at hp
            refine rw_iload F dc_X8_ahead_36 rfl ?_
            refine rw_if_eq (tgt := 51) F dc_X8_ahead_38 rfl (fun c26 => ?_) (fun c26 => ?_)
            · exact absurd c26 (by decide)
            · refine rw_iload_n F dc_X8_ahead_41 rfl ?_
              refine rw_iconst (v := 0) F dc_X8_ahead_42 rfl ?_
              refine rw_bipush (v := 100) F dc_X8_ahead_43 rfl ?_
              refine rw_cSi F [_, _, _] dc_X8_ahead_45 ms_X8_within ml_RX8_97 (by decide)  rfl rfl (Nat.le_of_ble_eq_true rfl) ct_X8_within ?_
              refine rw_if_ne (tgt := 58) F dc_X8_ahead_48 rfl (fun c27 => ?_) (fun c27 => ?_)
              · rw [if_neg c27] at hp
                refine rw_aload_n F dc_X8_ahead_58 rfl ?_
                refine rw_getR F dc_X8_ahead_59 fl_RX8_53 (by first | rfl | assumption | decide | exact r73_k (by assumption) | exact fb_k (by assumption) | exact sb_k (by assumption) | exact tb_k (by assumption) | exact sb_li (by assumption) | exact sb_s (by assumption) | exact tb_n (by assumption) | exact fb_k (sb_f (by assumption))) (by first | rfl | assumption | exact lk6 (by assumption) _ | exact lk2 (by assumption) _ | exact fb_l0 (by assumption) | exact fb_l1 (by assumption) | exact sb_l0 (by assumption) | exact sb_l1 (by assumption) | exact sb_l2 (by assumption) | exact sb_l3 (by assumption) | exact tb_l0 (by assumption) | exact tb_l1 (by assumption) | exact tb_l2 (by assumption) | exact lk2 (sb_li (by assumption)) _ | exact fb_l0 (sb_f (by assumption)) | exact fb_l1 (sb_f (by assumption))) ?_
                refine rw_aload_n F dc_X8_ahead_62 rfl ?_
                refine rw_getR F dc_X8_ahead_63 fl_RX8_12 (by first | rfl | assumption | decide | exact r73_k (by assumption) | exact fb_k (by assumption) | exact sb_k (by assumption) | exact tb_k (by assumption) | exact sb_li (by assumption) | exact sb_s (by assumption) | exact tb_n (by assumption) | exact fb_k (sb_f (by assumption))) (by first | rfl | assumption | exact lk6 (by assumption) _ | exact lk2 (by assumption) _ | exact fb_l0 (by assumption) | exact fb_l1 (by assumption) | exact sb_l0 (by assumption) | exact sb_l1 (by assumption) | exact sb_l2 (by assumption) | exact sb_l3 (by assumption) | exact tb_l0 (by assumption) | exact tb_l1 (by assumption) | exact tb_l2 (by assumption) | exact lk2 (sb_li (by assumption)) _ | exact fb_l0 (sb_f (by assumption)) | exact fb_l1 (sb_f (by assumption))) ?_
                refine rw_getR F dc_X8_ahead_66 fl_RX8_101 (by first | rfl | assumption | decide | exact r73_k (by assumption) | exact fb_k (by assumption) | exact sb_k (by assumption) | exact tb_k (by assumption) | exact sb_li (by assumption) | exact sb_s (by assumption) | exact tb_n (by assumption) | exact fb_k (sb_f (by assumption))) (by first | rfl | assumption | exact lk6 (by assumption) _ | exact lk2 (by assumption) _ | exact fb_l0 (by assumption) | exact fb_l1 (by assumption) | exact sb_l0 (by assumption) | exact sb_l1 (by assumption) | exact sb_l2 (by assumption) | exact sb_l3 (by assumption) | exact tb_l0 (by assumption) | exact tb_l1 (by assumption) | exact tb_l2 (by assumption) | exact lk2 (sb_li (by assumption)) _ | exact fb_l0 (sb_f (by assumption)) | exact fb_l1 (sb_f (by assumption))) ?_
                refine rw_getR F dc_X8_ahead_69 fl_RX8_123 (by first | rfl | assumption | decide | exact r73_k (by assumption) | exact fb_k (by assumption) | exact sb_k (by assumption) | exact tb_k (by assumption) | exact sb_li (by assumption) | exact sb_s (by assumption) | exact tb_n (by assumption) | exact fb_k (sb_f (by assumption))) (by first | rfl | assumption | exact lk6 (by assumption) _ | exact lk2 (by assumption) _ | exact fb_l0 (by assumption) | exact fb_l1 (by assumption) | exact sb_l0 (by assumption) | exact sb_l1 (by assumption) | exact sb_l2 (by assumption) | exact sb_l3 (by assumption) | exact tb_l0 (by assumption) | exact tb_l1 (by assumption) | exact tb_l2 (by assumption) | exact lk2 (sb_li (by assumption)) _ | exact fb_l0 (sb_f (by assumption)) | exact fb_l1 (sb_f (by assumption))) ?_
                refine rw_iload_n F dc_X8_ahead_72 rfl ?_
                obtain ⟨hs28, hp⟩ := hp
                refine rw_aaShip F dc_X8_ahead_73 (by first | assumption | exact (show _ ∈ tw_fbL by decide) | exact sb_f (by assumption)) hs28 (fun hk29 => ?_)
                refine rw_cVv F [_] dc_X8_ahead_74 mv_X6_take ml_RX8_175 (by decide) (rc_6 (by first | rfl | assumption | decide | exact r73_k (by assumption) | exact fb_k (by assumption) | exact sb_k (by assumption) | exact tb_k (by assumption) | exact sb_li (by assumption) | exact sb_s (by assumption) | exact tb_n (by assumption) | exact fb_k (sb_f (by assumption)))) rfl rfl (Nat.le_of_ble_eq_true rfl) ct_X6_take ?_
                refine rw_aload_n F dc_X8_ahead_77 rfl ?_
                refine rw_getR F dc_X8_ahead_78 fl_RX8_53 (by first | rfl | assumption | decide | exact r73_k (by assumption) | exact fb_k (by assumption) | exact sb_k (by assumption) | exact tb_k (by assumption) | exact sb_li (by assumption) | exact sb_s (by assumption) | exact tb_n (by assumption) | exact fb_k (sb_f (by assumption))) (by first | rfl | assumption | exact lk6 (by assumption) _ | exact lk2 (by assumption) _ | exact fb_l0 (by assumption) | exact fb_l1 (by assumption) | exact sb_l0 (by assumption) | exact sb_l1 (by assumption) | exact sb_l2 (by assumption) | exact sb_l3 (by assumption) | exact tb_l0 (by assumption) | exact tb_l1 (by assumption) | exact tb_l2 (by assumption) | exact lk2 (sb_li (by assumption)) _ | exact fb_l0 (sb_f (by assumption)) | exact fb_l1 (sb_f (by assumption))) ?_
                refine rw_aload_n F dc_X8_ahead_81 rfl ?_
                refine rw_getR F dc_X8_ahead_82 fl_RX8_12 (by first | rfl | assumption | decide | exact r73_k (by assumption) | exact fb_k (by assumption) | exact sb_k (by assumption) | exact tb_k (by assumption) | exact sb_li (by assumption) | exact sb_s (by assumption) | exact tb_n (by assumption) | exact fb_k (sb_f (by assumption))) (by first | rfl | assumption | exact lk6 (by assumption) _ | exact lk2 (by assumption) _ | exact fb_l0 (by assumption) | exact fb_l1 (by assumption) | exact sb_l0 (by assumption) | exact sb_l1 (by assumption) | exact sb_l2 (by assumption) | exact sb_l3 (by assumption) | exact tb_l0 (by assumption) | exact tb_l1 (by assumption) | exact tb_l2 (by assumption) | exact lk2 (sb_li (by assumption)) _ | exact fb_l0 (sb_f (by assumption)) | exact fb_l1 (sb_f (by assumption))) ?_
                refine rw_getR F dc_X8_ahead_85 fl_RX8_87 (by first | rfl | assumption | decide | exact r73_k (by assumption) | exact fb_k (by assumption) | exact sb_k (by assumption) | exact tb_k (by assumption) | exact sb_li (by assumption) | exact sb_s (by assumption) | exact tb_n (by assumption) | exact fb_k (sb_f (by assumption))) (by first | rfl | assumption | exact lk6 (by assumption) _ | exact lk2 (by assumption) _ | exact fb_l0 (by assumption) | exact fb_l1 (by assumption) | exact sb_l0 (by assumption) | exact sb_l1 (by assumption) | exact sb_l2 (by assumption) | exact sb_l3 (by assumption) | exact tb_l0 (by assumption) | exact tb_l1 (by assumption) | exact tb_l2 (by assumption) | exact lk2 (sb_li (by assumption)) _ | exact fb_l0 (sb_f (by assumption)) | exact fb_l1 (sb_f (by assumption))) ?_
                refine rw_iload_n F dc_X8_ahead_88 rfl ?_
                obtain ⟨hs30, hp⟩ := hp
                refine rw_cVv F [_, _] dc_X8_ahead_89 mv_X6_sailOn ml_RX8_179 (by decide) (rc_6 (by first | rfl | assumption | decide | exact r73_k (by assumption) | exact fb_k (by assumption) | exact sb_k (by assumption) | exact tb_k (by assumption) | exact sb_li (by assumption) | exact sb_s (by assumption) | exact tb_n (by assumption) | exact fb_k (sb_f (by assumption)))) rfl rfl (Nat.le_of_ble_eq_true rfl) (cr_X6_sailOn hs30) ?_
                refine rw_aload_n F dc_X8_ahead_92 rfl ?_
                refine rw_getR F dc_X8_ahead_93 fl_RX8_53 (by first | rfl | assumption | decide | exact r73_k (by assumption) | exact fb_k (by assumption) | exact sb_k (by assumption) | exact tb_k (by assumption) | exact sb_li (by assumption) | exact sb_s (by assumption) | exact tb_n (by assumption) | exact fb_k (sb_f (by assumption))) (by first | rfl | assumption | exact lk6 (by assumption) _ | exact lk2 (by assumption) _ | exact fb_l0 (by assumption) | exact fb_l1 (by assumption) | exact sb_l0 (by assumption) | exact sb_l1 (by assumption) | exact sb_l2 (by assumption) | exact sb_l3 (by assumption) | exact tb_l0 (by assumption) | exact tb_l1 (by assumption) | exact tb_l2 (by assumption) | exact lk2 (sb_li (by assumption)) _ | exact fb_l0 (sb_f (by assumption)) | exact fb_l1 (sb_f (by assumption))) ?_
                refine rw_iload_n F dc_X8_ahead_96 rfl ?_
                refine rw_cVi F [_] dc_X8_ahead_97 mv_X6_told ml_RX8_140 (by decide) (rc_6 (by first | rfl | assumption | decide | exact r73_k (by assumption) | exact fb_k (by assumption) | exact sb_k (by assumption) | exact tb_k (by assumption) | exact sb_li (by assumption) | exact sb_s (by assumption) | exact tb_n (by assumption) | exact fb_k (sb_f (by assumption)))) rfl rfl (Nat.le_of_ble_eq_true rfl) ct_X6_told ?_
                refine rw_iret F dc_X8_ahead_100 rfl rfl ?_
                exact ⟨by first | (simp only [f_X8_ahead, g_X8_ahead, if_neg c1, if_neg c8, if_neg c15, if_pos c22, if_neg c25, if_neg c27]; done) | rfl | (simp only [f_X8_ahead, g_X8_ahead, if_neg c1, if_neg c8, if_neg c15, if_pos c22, if_neg c25, if_neg c27]; rfl), by first | (simp only [f_X8_ahead, g_X8_ahead, if_neg c1, if_neg c8, if_neg c15, if_pos c22, if_neg c25, if_neg c27]; done) | rfl | (simp only [f_X8_ahead, g_X8_ahead, if_neg c1, if_neg c8, if_neg c15, if_pos c22, if_neg c25, if_neg c27]; rfl)⟩
              · rw [if_pos c27] at hp
                refine rw_aload_n F dc_X8_ahead_51 rfl ?_
                refine rw_ldc F dc_X8_ahead_52 kc_RX8_82 ?_
                refine rw_cVi F [_] dc_X8_ahead_54 mv_X8_found ml_RX8_83 (by decide) (rc_8 (by first | rfl | assumption | decide | exact r73_k (by assumption) | exact fb_k (by assumption) | exact sb_k (by assumption) | exact tb_k (by assumption) | exact sb_li (by assumption) | exact sb_s (by assumption) | exact tb_n (by assumption) | exact fb_k (sb_f (by assumption)))) rfl rfl (Nat.le_of_ble_eq_true rfl) cn_X8_found ?_
                refine rw_iret F dc_X8_ahead_57 rfl rfl ?_
                exact ⟨by first | (simp only [f_X8_ahead, g_X8_ahead, if_neg c1, if_neg c8, if_neg c15, if_pos c22, if_neg c25, if_pos c27]; done) | rfl | (simp only [f_X8_ahead, g_X8_ahead, if_neg c1, if_neg c8, if_neg c15, if_pos c22, if_neg c25, if_pos c27]; rfl), by first | (simp only [f_X8_ahead, g_X8_ahead, if_neg c1, if_neg c8, if_neg c15, if_pos c22, if_neg c25, if_pos c27]; done) | rfl | (simp only [f_X8_ahead, g_X8_ahead, if_neg c1, if_neg c8, if_neg c15, if_pos c22, if_neg c25, if_pos c27]; rfl)⟩
def f_X8_shows  (x1 : Int32) (x2 : Int32) (τ : tw_T) : Int32 := if (f_X8_within x1 0 1 τ) = (0 : Int32) then ((-1000001)) else (if (f_X8_within x2 0 100 τ) = (0 : Int32) then ((-1000001)) else (if x1 = (0 : Int32) then (f_X2_firstAhead 2 x2 τ) else (f_X2_secondAhead 2 x2 τ)))
def g_X8_shows  (x1 : Int32) (x2 : Int32) (τ : tw_T) : tw_T := if (f_X8_within x1 0 1 τ) = (0 : Int32) then (g_X8_found ((-1000001)) τ) else (if (f_X8_within x2 0 100 τ) = (0 : Int32) then (g_X8_found ((-1000001)) τ) else τ)
theorem ct_X8_shows {E : tw_E}   {x1 : Int32} {x2 : Int32} {τ : tw_T}   : tw_Ci E 5 mX8_shows [.ref 0, .int x1, .int x2] τ (f_X8_shows x1 x2 τ) (g_X8_shows x1 x2 τ) := by
  refine ct_of (by decide) (by simp [Value.category]) (Nat.le_of_ble_eq_true rfl) (fun K hE F => ?_)
  subst hE
  refine rw_iload_n F dc_X8_shows_0 rfl ?_
  refine rw_iconst (v := 0) F dc_X8_shows_1 rfl ?_
  refine rw_iconst (v := 1) F dc_X8_shows_2 rfl ?_
  refine rw_cSi F [_, _, _] dc_X8_shows_3 ms_X8_within ml_RX8_97 (by decide)  rfl rfl (Nat.le_of_ble_eq_true rfl) ct_X8_within ?_
  refine rw_if_eq (tgt := 19) F dc_X8_shows_6 rfl (fun c1 => ?_) (fun c1 => ?_)
  · refine rw_aload_n F dc_X8_shows_19 rfl ?_
    refine rw_ldc F dc_X8_shows_20 kc_RX8_82 ?_
    refine rw_cVi F [_] dc_X8_shows_22 mv_X8_found ml_RX8_83 (by decide) (rc_8 (by first | rfl | assumption | decide | exact r73_k (by assumption) | exact fb_k (by assumption) | exact sb_k (by assumption) | exact tb_k (by assumption) | exact sb_li (by assumption) | exact sb_s (by assumption) | exact tb_n (by assumption) | exact fb_k (sb_f (by assumption)))) rfl rfl (Nat.le_of_ble_eq_true rfl) cn_X8_found ?_
    refine rw_iret F dc_X8_shows_25 rfl rfl ?_
    exact ⟨by first | (simp only [f_X8_shows, g_X8_shows, if_pos c1]; done) | rfl | (simp only [f_X8_shows, g_X8_shows, if_pos c1]; rfl), by first | (simp only [f_X8_shows, g_X8_shows, if_pos c1]; done) | rfl | (simp only [f_X8_shows, g_X8_shows, if_pos c1]; rfl)⟩
  · refine rw_iload_n F dc_X8_shows_9 rfl ?_
    refine rw_iconst (v := 0) F dc_X8_shows_10 rfl ?_
    refine rw_bipush (v := 100) F dc_X8_shows_11 rfl ?_
    refine rw_cSi F [_, _, _] dc_X8_shows_13 ms_X8_within ml_RX8_97 (by decide)  rfl rfl (Nat.le_of_ble_eq_true rfl) ct_X8_within ?_
    refine rw_if_ne (tgt := 26) F dc_X8_shows_16 rfl (fun c2 => ?_) (fun c2 => ?_)
    · refine rw_iload_n F dc_X8_shows_26 rfl ?_
      refine rw_if_ne (tgt := 44) F dc_X8_shows_27 rfl (fun c3 => ?_) (fun c3 => ?_)
      · refine rw_aload_n F dc_X8_shows_44 rfl ?_
        refine rw_getR F dc_X8_shows_45 fl_RX8_12 (by first | rfl | assumption | decide | exact r73_k (by assumption) | exact fb_k (by assumption) | exact sb_k (by assumption) | exact tb_k (by assumption) | exact sb_li (by assumption) | exact sb_s (by assumption) | exact tb_n (by assumption) | exact fb_k (sb_f (by assumption))) (by first | rfl | assumption | exact lk6 (by assumption) _ | exact lk2 (by assumption) _ | exact fb_l0 (by assumption) | exact fb_l1 (by assumption) | exact sb_l0 (by assumption) | exact sb_l1 (by assumption) | exact sb_l2 (by assumption) | exact sb_l3 (by assumption) | exact tb_l0 (by assumption) | exact tb_l1 (by assumption) | exact tb_l2 (by assumption) | exact lk2 (sb_li (by assumption)) _ | exact fb_l0 (sb_f (by assumption)) | exact fb_l1 (sb_f (by assumption))) ?_
        refine rw_getR F dc_X8_shows_48 fl_RX8_87 (by first | rfl | assumption | decide | exact r73_k (by assumption) | exact fb_k (by assumption) | exact sb_k (by assumption) | exact tb_k (by assumption) | exact sb_li (by assumption) | exact sb_s (by assumption) | exact tb_n (by assumption) | exact fb_k (sb_f (by assumption))) (by first | rfl | assumption | exact lk6 (by assumption) _ | exact lk2 (by assumption) _ | exact fb_l0 (by assumption) | exact fb_l1 (by assumption) | exact sb_l0 (by assumption) | exact sb_l1 (by assumption) | exact sb_l2 (by assumption) | exact sb_l3 (by assumption) | exact tb_l0 (by assumption) | exact tb_l1 (by assumption) | exact tb_l2 (by assumption) | exact lk2 (sb_li (by assumption)) _ | exact fb_l0 (sb_f (by assumption)) | exact fb_l1 (sb_f (by assumption))) ?_
        refine rw_iload_n F dc_X8_shows_51 rfl ?_
        refine rw_cVi F [_] dc_X8_shows_52 mv_X2_secondAhead ml_RX8_186 (by decide) (rc_2 (by first | rfl | assumption | decide | exact r73_k (by assumption) | exact fb_k (by assumption) | exact sb_k (by assumption) | exact tb_k (by assumption) | exact sb_li (by assumption) | exact sb_s (by assumption) | exact tb_n (by assumption) | exact fb_k (sb_f (by assumption)))) rfl rfl (Nat.le_of_ble_eq_true rfl) ct_X2_secondAhead ?_
        refine rw_iret F dc_X8_shows_55 rfl rfl ?_
        exact ⟨by first | (simp only [f_X8_shows, g_X8_shows, if_neg c1, if_neg c2, if_neg c3]; done) | rfl | (simp only [f_X8_shows, g_X8_shows, if_neg c1, if_neg c2, if_neg c3]; rfl), by first | (simp only [f_X8_shows, g_X8_shows, if_neg c1, if_neg c2, if_neg c3]; done) | rfl | (simp only [f_X8_shows, g_X8_shows, if_neg c1, if_neg c2, if_neg c3]; rfl)⟩
      · refine rw_aload_n F dc_X8_shows_30 rfl ?_
        refine rw_getR F dc_X8_shows_31 fl_RX8_12 (by first | rfl | assumption | decide | exact r73_k (by assumption) | exact fb_k (by assumption) | exact sb_k (by assumption) | exact tb_k (by assumption) | exact sb_li (by assumption) | exact sb_s (by assumption) | exact tb_n (by assumption) | exact fb_k (sb_f (by assumption))) (by first | rfl | assumption | exact lk6 (by assumption) _ | exact lk2 (by assumption) _ | exact fb_l0 (by assumption) | exact fb_l1 (by assumption) | exact sb_l0 (by assumption) | exact sb_l1 (by assumption) | exact sb_l2 (by assumption) | exact sb_l3 (by assumption) | exact tb_l0 (by assumption) | exact tb_l1 (by assumption) | exact tb_l2 (by assumption) | exact lk2 (sb_li (by assumption)) _ | exact fb_l0 (sb_f (by assumption)) | exact fb_l1 (sb_f (by assumption))) ?_
        refine rw_getR F dc_X8_shows_34 fl_RX8_87 (by first | rfl | assumption | decide | exact r73_k (by assumption) | exact fb_k (by assumption) | exact sb_k (by assumption) | exact tb_k (by assumption) | exact sb_li (by assumption) | exact sb_s (by assumption) | exact tb_n (by assumption) | exact fb_k (sb_f (by assumption))) (by first | rfl | assumption | exact lk6 (by assumption) _ | exact lk2 (by assumption) _ | exact fb_l0 (by assumption) | exact fb_l1 (by assumption) | exact sb_l0 (by assumption) | exact sb_l1 (by assumption) | exact sb_l2 (by assumption) | exact sb_l3 (by assumption) | exact tb_l0 (by assumption) | exact tb_l1 (by assumption) | exact tb_l2 (by assumption) | exact lk2 (sb_li (by assumption)) _ | exact fb_l0 (sb_f (by assumption)) | exact fb_l1 (sb_f (by assumption))) ?_
        refine rw_iload_n F dc_X8_shows_37 rfl ?_
        refine rw_cVi F [_] dc_X8_shows_38 mv_X2_firstAhead ml_RX8_183 (by decide) (rc_2 (by first | rfl | assumption | decide | exact r73_k (by assumption) | exact fb_k (by assumption) | exact sb_k (by assumption) | exact tb_k (by assumption) | exact sb_li (by assumption) | exact sb_s (by assumption) | exact tb_n (by assumption) | exact fb_k (sb_f (by assumption)))) rfl rfl (Nat.le_of_ble_eq_true rfl) ct_X2_firstAhead ?_
        refine rw_goto (tgt := 55) F dc_X8_shows_41 rfl ?_
        refine rw_iret F dc_X8_shows_55 rfl rfl ?_
        exact ⟨by first | (simp only [f_X8_shows, g_X8_shows, if_neg c1, if_neg c2, if_pos c3]; done) | rfl | (simp only [f_X8_shows, g_X8_shows, if_neg c1, if_neg c2, if_pos c3]; rfl), by first | (simp only [f_X8_shows, g_X8_shows, if_neg c1, if_neg c2, if_pos c3]; done) | rfl | (simp only [f_X8_shows, g_X8_shows, if_neg c1, if_neg c2, if_pos c3]; rfl)⟩
    · refine rw_aload_n F dc_X8_shows_19 rfl ?_
      refine rw_ldc F dc_X8_shows_20 kc_RX8_82 ?_
      refine rw_cVi F [_] dc_X8_shows_22 mv_X8_found ml_RX8_83 (by decide) (rc_8 (by first | rfl | assumption | decide | exact r73_k (by assumption) | exact fb_k (by assumption) | exact sb_k (by assumption) | exact tb_k (by assumption) | exact sb_li (by assumption) | exact sb_s (by assumption) | exact tb_n (by assumption) | exact fb_k (sb_f (by assumption)))) rfl rfl (Nat.le_of_ble_eq_true rfl) cn_X8_found ?_
      refine rw_iret F dc_X8_shows_25 rfl rfl ?_
      exact ⟨by first | (simp only [f_X8_shows, g_X8_shows, if_neg c1, if_pos c2]; done) | rfl | (simp only [f_X8_shows, g_X8_shows, if_neg c1, if_pos c2]; rfl), by first | (simp only [f_X8_shows, g_X8_shows, if_neg c1, if_pos c2]; done) | rfl | (simp only [f_X8_shows, g_X8_shows, if_neg c1, if_pos c2]; rfl)⟩
def lf_X8_strands_44 (N : Nat)  : Nat → Int32 → Int32 → Int32 → tw_T → Int32
  | 0, _, _, _, _ => 0
  | n + 1, x1, x2, x3, τ => if (200 : Int32) < x3 then ((-1000004)) else (if ((g_X8_sailTick 45 (x3 - 1) τ) 45 5) ≤ x2 then (lf_X8_strands_44 N n x1 x2 (x3 + 1) (g_X8_sailTick 45 (x3 - 1) τ)) else x3)
def lg_X8_strands_44 (N : Nat)  : Nat → Int32 → Int32 → Int32 → tw_T → tw_T
  | 0, _, _, _, τ => τ
  | n + 1, x1, x2, x3, τ => if (200 : Int32) < x3 then (g_X8_found ((-1000004)) τ) else (if ((g_X8_sailTick 45 (x3 - 1) τ) 45 5) ≤ x2 then (lg_X8_strands_44 N n x1 x2 (x3 + 1) (g_X8_sailTick 45 (x3 - 1) τ)) else (g_X8_sailTick 45 (x3 - 1) τ))
def lo_X8_strands_44 (N : Nat)  : Nat → Int32 → Int32 → Int32 → tw_T → Prop
  | 0, _, _, _, _ => False
  | n + 1, x1, x2, x3, τ => if (200 : Int32) < x3 then True else (if ((g_X8_sailTick 45 (x3 - 1) τ) 45 5) ≤ x2 then (lo_X8_strands_44 N n x1 x2 (x3 + 1) (g_X8_sailTick 45 (x3 - 1) τ)) else True)
def f_X8_strands (N : Nat)  (x1 : Int32) (τ : tw_T) : Int32 := if (f_X8_isShip x1 τ) = (0 : Int32) then ((-1000001)) else (lf_X8_strands_44 N N x1 ((g_X6_take 45 (3 + 2 + x1.toNatClampNeg) τ) 45 5) 1 (g_X6_take 45 (3 + 2 + x1.toNatClampNeg) τ))
def g_X8_strands (N : Nat)  (x1 : Int32) (τ : tw_T) : tw_T := if (f_X8_isShip x1 τ) = (0 : Int32) then (g_X8_found ((-1000001)) τ) else (lg_X8_strands_44 N N x1 ((g_X6_take 45 (3 + 2 + x1.toNatClampNeg) τ) 45 5) 1 (g_X6_take 45 (3 + 2 + x1.toNatClampNeg) τ))
def p_X8_strands (N : Nat)  (x1 : Int32) (τ : tw_T) : Prop := if (f_X8_isShip x1 τ) = (0 : Int32) then True else (vp_in x1 8 ∧ (lo_X8_strands_44 N N x1 ((g_X6_take 45 (3 + 2 + x1.toNatClampNeg) τ) 45 5) 1 (g_X6_take 45 (3 + 2 + x1.toNatClampNeg) τ)))
theorem lp_X8_strands_44 {K : tw_K} {Q : Option Value → tw_T → Prop} (F : tw_F K mX8_strands 5 Q)   (N : Nat)  : ∀ (n : Nat) (x1 : Int32) (x2 : Int32) (x3 : Int32) (τ : tw_T), lo_X8_strands_44 N n x1 x2 x3 τ → Q (some (.int (lf_X8_strands_44 N n x1 x2 x3 τ))) (lg_X8_strands_44 N n x1 x2 x3 τ) → tw_R K 44 [.ref 0, .int x1, .int x2, .int x3] [] τ := by
  intro n
  induction n with
  | zero => intro x1 x2 x3 τ hp _; exact False.elim hp
  | succ n ih =>
    intro x1 x2 x3 τ hp hq
    simp only [lo_X8_strands_44] at hp
    simp only [lf_X8_strands_44, lg_X8_strands_44] at hq
    refine rw_iload_n F dc_X8_strands_44 rfl ?_
    refine rw_sipush (v := 200) F dc_X8_strands_45 rfl ?_
    refine rw_icmp_gt (tgt := 81) F dc_X8_strands_48 rfl (fun c1 => ?_) (fun c1 => ?_)
    · rw [if_pos c1] at hp
      refine rw_aload_n F dc_X8_strands_81 rfl ?_
      refine rw_ldc F dc_X8_strands_82 kc_RX8_196 ?_
      refine rw_cVi F [_] dc_X8_strands_84 mv_X8_found ml_RX8_83 (by decide) (rc_8 (by first | rfl | assumption | decide | exact r73_k (by assumption) | exact fb_k (by assumption) | exact sb_k (by assumption) | exact tb_k (by assumption) | exact sb_li (by assumption) | exact sb_s (by assumption) | exact tb_n (by assumption) | exact fb_k (sb_f (by assumption)))) rfl rfl (Nat.le_of_ble_eq_true rfl) cn_X8_found ?_
      refine rw_iret F dc_X8_strands_87 rfl rfl ?_
      exact (by simpa only [if_pos c1] using hq)
    · rw [if_neg c1] at hp
      refine rw_aload_n F dc_X8_strands_51 rfl ?_
      refine rw_aload_n F dc_X8_strands_52 rfl ?_
      refine rw_getR F dc_X8_strands_53 fl_RX8_53 (by first | rfl | assumption | decide | exact r73_k (by assumption) | exact fb_k (by assumption) | exact sb_k (by assumption) | exact tb_k (by assumption) | exact sb_li (by assumption) | exact sb_s (by assumption) | exact tb_n (by assumption) | exact fb_k (sb_f (by assumption))) (by first | rfl | assumption | exact lk6 (by assumption) _ | exact lk2 (by assumption) _ | exact fb_l0 (by assumption) | exact fb_l1 (by assumption) | exact sb_l0 (by assumption) | exact sb_l1 (by assumption) | exact sb_l2 (by assumption) | exact sb_l3 (by assumption) | exact tb_l0 (by assumption) | exact tb_l1 (by assumption) | exact tb_l2 (by assumption) | exact lk2 (sb_li (by assumption)) _ | exact fb_l0 (sb_f (by assumption)) | exact fb_l1 (sb_f (by assumption))) ?_
      refine rw_iload_n F dc_X8_strands_56 rfl ?_
      refine rw_iconst (v := 1) F dc_X8_strands_57 rfl ?_
      refine rw_isub F dc_X8_strands_58 ?_
      refine rw_cVv F [_, _] dc_X8_strands_59 mv_X8_sailTick ml_RX8_192 (by decide) (rc_8 (by first | rfl | assumption | decide | exact r73_k (by assumption) | exact fb_k (by assumption) | exact sb_k (by assumption) | exact tb_k (by assumption) | exact sb_li (by assumption) | exact sb_s (by assumption) | exact tb_n (by assumption) | exact fb_k (sb_f (by assumption)))) rfl rfl (Nat.le_of_ble_eq_true rfl) ct_X8_sailTick ?_
      refine rw_aload_n F dc_X8_strands_62 rfl ?_
      refine rw_getR F dc_X8_strands_63 fl_RX8_53 (by first | rfl | assumption | decide | exact r73_k (by assumption) | exact fb_k (by assumption) | exact sb_k (by assumption) | exact tb_k (by assumption) | exact sb_li (by assumption) | exact sb_s (by assumption) | exact tb_n (by assumption) | exact fb_k (sb_f (by assumption))) (by first | rfl | assumption | exact lk6 (by assumption) _ | exact lk2 (by assumption) _ | exact fb_l0 (by assumption) | exact fb_l1 (by assumption) | exact sb_l0 (by assumption) | exact sb_l1 (by assumption) | exact sb_l2 (by assumption) | exact sb_l3 (by assumption) | exact tb_l0 (by assumption) | exact tb_l1 (by assumption) | exact tb_l2 (by assumption) | exact lk2 (sb_li (by assumption)) _ | exact fb_l0 (sb_f (by assumption)) | exact fb_l1 (sb_f (by assumption))) ?_
      refine rw_getI F dc_X8_strands_66 fl_RX8_189 (by first | rfl | assumption | decide | exact r73_k (by assumption) | exact fb_k (by assumption) | exact sb_k (by assumption) | exact tb_k (by assumption) | exact sb_li (by assumption) | exact sb_s (by assumption) | exact tb_n (by assumption) | exact fb_k (sb_f (by assumption))) (by first | rfl | assumption | exact lk6 (by assumption) _ | exact lk2 (by assumption) _ | exact fb_l0 (by assumption) | exact fb_l1 (by assumption) | exact sb_l0 (by assumption) | exact sb_l1 (by assumption) | exact sb_l2 (by assumption) | exact sb_l3 (by assumption) | exact tb_l0 (by assumption) | exact tb_l1 (by assumption) | exact tb_l2 (by assumption) | exact lk2 (sb_li (by assumption)) _ | exact fb_l0 (sb_f (by assumption)) | exact fb_l1 (sb_f (by assumption))) ?_
      refine rw_iload_n F dc_X8_strands_69 rfl ?_
      refine rw_icmp_le (tgt := 75) F dc_X8_strands_70 rfl (fun c2 => ?_) (fun c2 => ?_)
      · rw [if_pos c2] at hp
        refine rw_inc (n1 := 1) F dc_X8_strands_75 rfl rfl (by decide) rfl ?_
        refine rw_goto (tgt := 44) F dc_X8_strands_78 rfl ?_
        exact ih _ _ _ _ hp (by simpa only [if_neg c1, if_pos c2] using hq)
      · rw [if_neg c2] at hp
        refine rw_iload_n F dc_X8_strands_73 rfl ?_
        refine rw_iret F dc_X8_strands_74 rfl rfl ?_
        exact (by simpa only [if_neg c1, if_neg c2] using hq)
theorem cr_X8_strands {E : tw_E}  {N : Nat}  {x1 : Int32} {τ : tw_T} (hp : p_X8_strands N x1 τ)  : tw_Ci E 5 mX8_strands [.ref 0, .int x1] τ (f_X8_strands N x1 τ) (g_X8_strands N x1 τ) := by
  unfold p_X8_strands at hp
  refine ct_of (by decide) (by simp [Value.category]) (Nat.le_of_ble_eq_true rfl) (fun K hE F => ?_)
  subst hE
  refine rw_aload_n F dc_X8_strands_0 rfl ?_
  refine rw_iload_n F dc_X8_strands_1 rfl ?_
  refine rw_cVi F [_] dc_X8_strands_2 mv_X8_isShip ml_RX8_119 (by decide) (rc_8 (by first | rfl | assumption | decide | exact r73_k (by assumption) | exact fb_k (by assumption) | exact sb_k (by assumption) | exact tb_k (by assumption) | exact sb_li (by assumption) | exact sb_s (by assumption) | exact tb_n (by assumption) | exact fb_k (sb_f (by assumption)))) rfl rfl (Nat.le_of_ble_eq_true rfl) ct_X8_isShip ?_
  refine rw_if_ne (tgt := 15) F dc_X8_strands_5 rfl (fun c1 => ?_) (fun c1 => ?_)
  · rw [if_neg c1] at hp
    refine rw_aload_n F dc_X8_strands_15 rfl ?_
    refine rw_getR F dc_X8_strands_16 fl_RX8_53 (by first | rfl | assumption | decide | exact r73_k (by assumption) | exact fb_k (by assumption) | exact sb_k (by assumption) | exact tb_k (by assumption) | exact sb_li (by assumption) | exact sb_s (by assumption) | exact tb_n (by assumption) | exact fb_k (sb_f (by assumption))) (by first | rfl | assumption | exact lk6 (by assumption) _ | exact lk2 (by assumption) _ | exact fb_l0 (by assumption) | exact fb_l1 (by assumption) | exact sb_l0 (by assumption) | exact sb_l1 (by assumption) | exact sb_l2 (by assumption) | exact sb_l3 (by assumption) | exact tb_l0 (by assumption) | exact tb_l1 (by assumption) | exact tb_l2 (by assumption) | exact lk2 (sb_li (by assumption)) _ | exact fb_l0 (sb_f (by assumption)) | exact fb_l1 (sb_f (by assumption))) ?_
    refine rw_aload_n F dc_X8_strands_19 rfl ?_
    refine rw_getR F dc_X8_strands_20 fl_RX8_12 (by first | rfl | assumption | decide | exact r73_k (by assumption) | exact fb_k (by assumption) | exact sb_k (by assumption) | exact tb_k (by assumption) | exact sb_li (by assumption) | exact sb_s (by assumption) | exact tb_n (by assumption) | exact fb_k (sb_f (by assumption))) (by first | rfl | assumption | exact lk6 (by assumption) _ | exact lk2 (by assumption) _ | exact fb_l0 (by assumption) | exact fb_l1 (by assumption) | exact sb_l0 (by assumption) | exact sb_l1 (by assumption) | exact sb_l2 (by assumption) | exact sb_l3 (by assumption) | exact tb_l0 (by assumption) | exact tb_l1 (by assumption) | exact tb_l2 (by assumption) | exact lk2 (sb_li (by assumption)) _ | exact fb_l0 (sb_f (by assumption)) | exact fb_l1 (sb_f (by assumption))) ?_
    refine rw_getR F dc_X8_strands_23 fl_RX8_101 (by first | rfl | assumption | decide | exact r73_k (by assumption) | exact fb_k (by assumption) | exact sb_k (by assumption) | exact tb_k (by assumption) | exact sb_li (by assumption) | exact sb_s (by assumption) | exact tb_n (by assumption) | exact fb_k (sb_f (by assumption))) (by first | rfl | assumption | exact lk6 (by assumption) _ | exact lk2 (by assumption) _ | exact fb_l0 (by assumption) | exact fb_l1 (by assumption) | exact sb_l0 (by assumption) | exact sb_l1 (by assumption) | exact sb_l2 (by assumption) | exact sb_l3 (by assumption) | exact tb_l0 (by assumption) | exact tb_l1 (by assumption) | exact tb_l2 (by assumption) | exact lk2 (sb_li (by assumption)) _ | exact fb_l0 (sb_f (by assumption)) | exact fb_l1 (sb_f (by assumption))) ?_
    refine rw_getR F dc_X8_strands_26 fl_RX8_123 (by first | rfl | assumption | decide | exact r73_k (by assumption) | exact fb_k (by assumption) | exact sb_k (by assumption) | exact tb_k (by assumption) | exact sb_li (by assumption) | exact sb_s (by assumption) | exact tb_n (by assumption) | exact fb_k (sb_f (by assumption))) (by first | rfl | assumption | exact lk6 (by assumption) _ | exact lk2 (by assumption) _ | exact fb_l0 (by assumption) | exact fb_l1 (by assumption) | exact sb_l0 (by assumption) | exact sb_l1 (by assumption) | exact sb_l2 (by assumption) | exact sb_l3 (by assumption) | exact tb_l0 (by assumption) | exact tb_l1 (by assumption) | exact tb_l2 (by assumption) | exact lk2 (sb_li (by assumption)) _ | exact fb_l0 (sb_f (by assumption)) | exact fb_l1 (sb_f (by assumption))) ?_
    refine rw_iload_n F dc_X8_strands_29 rfl ?_
    obtain ⟨hs2, hp⟩ := hp
    refine rw_aaShip F dc_X8_strands_30 (by first | assumption | exact (show _ ∈ tw_fbL by decide) | exact sb_f (by assumption)) hs2 (fun hk3 => ?_)
    refine rw_cVv F [_] dc_X8_strands_31 mv_X6_take ml_RX8_175 (by decide) (rc_6 (by first | rfl | assumption | decide | exact r73_k (by assumption) | exact fb_k (by assumption) | exact sb_k (by assumption) | exact tb_k (by assumption) | exact sb_li (by assumption) | exact sb_s (by assumption) | exact tb_n (by assumption) | exact fb_k (sb_f (by assumption)))) rfl rfl (Nat.le_of_ble_eq_true rfl) ct_X6_take ?_
    refine rw_aload_n F dc_X8_strands_34 rfl ?_
    refine rw_getR F dc_X8_strands_35 fl_RX8_53 (by first | rfl | assumption | decide | exact r73_k (by assumption) | exact fb_k (by assumption) | exact sb_k (by assumption) | exact tb_k (by assumption) | exact sb_li (by assumption) | exact sb_s (by assumption) | exact tb_n (by assumption) | exact fb_k (sb_f (by assumption))) (by first | rfl | assumption | exact lk6 (by assumption) _ | exact lk2 (by assumption) _ | exact fb_l0 (by assumption) | exact fb_l1 (by assumption) | exact sb_l0 (by assumption) | exact sb_l1 (by assumption) | exact sb_l2 (by assumption) | exact sb_l3 (by assumption) | exact tb_l0 (by assumption) | exact tb_l1 (by assumption) | exact tb_l2 (by assumption) | exact lk2 (sb_li (by assumption)) _ | exact fb_l0 (sb_f (by assumption)) | exact fb_l1 (sb_f (by assumption))) ?_
    refine rw_getI F dc_X8_strands_38 fl_RX8_189 (by first | rfl | assumption | decide | exact r73_k (by assumption) | exact fb_k (by assumption) | exact sb_k (by assumption) | exact tb_k (by assumption) | exact sb_li (by assumption) | exact sb_s (by assumption) | exact tb_n (by assumption) | exact fb_k (sb_f (by assumption))) (by first | rfl | assumption | exact lk6 (by assumption) _ | exact lk2 (by assumption) _ | exact fb_l0 (by assumption) | exact fb_l1 (by assumption) | exact sb_l0 (by assumption) | exact sb_l1 (by assumption) | exact sb_l2 (by assumption) | exact sb_l3 (by assumption) | exact tb_l0 (by assumption) | exact tb_l1 (by assumption) | exact tb_l2 (by assumption) | exact lk2 (sb_li (by assumption)) _ | exact fb_l0 (sb_f (by assumption)) | exact fb_l1 (sb_f (by assumption))) ?_
    refine rw_istore_n F dc_X8_strands_41 (by decide) rfl ?_
    refine rw_iconst (v := 1) F dc_X8_strands_42 rfl ?_
    refine rw_istore_n F dc_X8_strands_43 (by decide) rfl ?_
    exact lp_X8_strands_44 F  N N _ _ _ _ hp ⟨by first | (simp only [f_X8_strands, g_X8_strands, if_neg c1]; done) | rfl | (simp only [f_X8_strands, g_X8_strands, if_neg c1]; rfl), by first | (simp only [f_X8_strands, g_X8_strands, if_neg c1]; done) | rfl | (simp only [f_X8_strands, g_X8_strands, if_neg c1]; rfl)⟩
  · rw [if_pos c1] at hp
    refine rw_aload_n F dc_X8_strands_8 rfl ?_
    refine rw_ldc F dc_X8_strands_9 kc_RX8_82 ?_
    refine rw_cVi F [_] dc_X8_strands_11 mv_X8_found ml_RX8_83 (by decide) (rc_8 (by first | rfl | assumption | decide | exact r73_k (by assumption) | exact fb_k (by assumption) | exact sb_k (by assumption) | exact tb_k (by assumption) | exact sb_li (by assumption) | exact sb_s (by assumption) | exact tb_n (by assumption) | exact fb_k (sb_f (by assumption)))) rfl rfl (Nat.le_of_ble_eq_true rfl) cn_X8_found ?_
    refine rw_iret F dc_X8_strands_14 rfl rfl ?_
    exact ⟨by first | (simp only [f_X8_strands, g_X8_strands, if_pos c1]; done) | rfl | (simp only [f_X8_strands, g_X8_strands, if_pos c1]; rfl), by first | (simp only [f_X8_strands, g_X8_strands, if_pos c1]; done) | rfl | (simp only [f_X8_strands, g_X8_strands, if_pos c1]; rfl)⟩
def lf_X8_when_46 (N : Nat)  : Nat → Int32 → Int32 → Int32 → tw_T → Int32
  | 0, _, _, _, _ => 0
  | n + 1, x1, x2, x3, τ => if (200 : Int32) < x3 then ((-1000004)) else (if (τ 45 1) = x2 then x3 else (lf_X8_when_46 N n x1 x2 (x3 + 1) (g_X8_sailTick 45 x3 τ)))
def lg_X8_when_46 (N : Nat)  : Nat → Int32 → Int32 → Int32 → tw_T → tw_T
  | 0, _, _, _, τ => τ
  | n + 1, x1, x2, x3, τ => if (200 : Int32) < x3 then (g_X8_found ((-1000004)) τ) else (if (τ 45 1) = x2 then τ else (lg_X8_when_46 N n x1 x2 (x3 + 1) (g_X8_sailTick 45 x3 τ)))
def lo_X8_when_46 (N : Nat)  : Nat → Int32 → Int32 → Int32 → tw_T → Prop
  | 0, _, _, _, _ => False
  | n + 1, x1, x2, x3, τ => if (200 : Int32) < x3 then True else (if (τ 45 1) = x2 then True else (lo_X8_when_46 N n x1 x2 (x3 + 1) (g_X8_sailTick 45 x3 τ)))
def f_X8_when (N : Nat)  (x1 : Int32) (x2 : Int32) (τ : tw_T) : Int32 := if (f_X8_isShip x1 τ) = (0 : Int32) then ((-1000001)) else (if (f_X8_within x2 0 23 τ) = (0 : Int32) then ((-1000001)) else (lf_X8_when_46 N N x1 x2 0 (g_X6_take 45 (3 + 2 + x1.toNatClampNeg) τ)))
def g_X8_when (N : Nat)  (x1 : Int32) (x2 : Int32) (τ : tw_T) : tw_T := if (f_X8_isShip x1 τ) = (0 : Int32) then (g_X8_found ((-1000001)) τ) else (if (f_X8_within x2 0 23 τ) = (0 : Int32) then (g_X8_found ((-1000001)) τ) else (lg_X8_when_46 N N x1 x2 0 (g_X6_take 45 (3 + 2 + x1.toNatClampNeg) τ)))
def p_X8_when (N : Nat)  (x1 : Int32) (x2 : Int32) (τ : tw_T) : Prop := if (f_X8_isShip x1 τ) = (0 : Int32) then True else (if (f_X8_within x2 0 23 τ) = (0 : Int32) then True else (vp_in x1 8 ∧ (lo_X8_when_46 N N x1 x2 0 (g_X6_take 45 (3 + 2 + x1.toNatClampNeg) τ))))
theorem lp_X8_when_46 {K : tw_K} {Q : Option Value → tw_T → Prop} (F : tw_F K mX8_when 5 Q)   (N : Nat)  : ∀ (n : Nat) (x1 : Int32) (x2 : Int32) (x3 : Int32) (τ : tw_T), lo_X8_when_46 N n x1 x2 x3 τ → Q (some (.int (lf_X8_when_46 N n x1 x2 x3 τ))) (lg_X8_when_46 N n x1 x2 x3 τ) → tw_R K 46 [.ref 0, .int x1, .int x2, .int x3] [] τ := by
  intro n
  induction n with
  | zero => intro x1 x2 x3 τ hp _; exact False.elim hp
  | succ n ih =>
    intro x1 x2 x3 τ hp hq
    simp only [lo_X8_when_46] at hp
    simp only [lf_X8_when_46, lg_X8_when_46] at hq
    refine rw_iload_n F dc_X8_when_46 rfl ?_
    refine rw_sipush (v := 200) F dc_X8_when_47 rfl ?_
    refine rw_icmp_gt (tgt := 81) F dc_X8_when_50 rfl (fun c1 => ?_) (fun c1 => ?_)
    · rw [if_pos c1] at hp
      refine rw_aload_n F dc_X8_when_81 rfl ?_
      refine rw_ldc F dc_X8_when_82 kc_RX8_196 ?_
      refine rw_cVi F [_] dc_X8_when_84 mv_X8_found ml_RX8_83 (by decide) (rc_8 (by first | rfl | assumption | decide | exact r73_k (by assumption) | exact fb_k (by assumption) | exact sb_k (by assumption) | exact tb_k (by assumption) | exact sb_li (by assumption) | exact sb_s (by assumption) | exact tb_n (by assumption) | exact fb_k (sb_f (by assumption)))) rfl rfl (Nat.le_of_ble_eq_true rfl) cn_X8_found ?_
      refine rw_iret F dc_X8_when_87 rfl rfl ?_
      exact (by simpa only [if_pos c1] using hq)
    · rw [if_neg c1] at hp
      refine rw_aload_n F dc_X8_when_53 rfl ?_
      refine rw_getR F dc_X8_when_54 fl_RX8_53 (by first | rfl | assumption | decide | exact r73_k (by assumption) | exact fb_k (by assumption) | exact sb_k (by assumption) | exact tb_k (by assumption) | exact sb_li (by assumption) | exact sb_s (by assumption) | exact tb_n (by assumption) | exact fb_k (sb_f (by assumption))) (by first | rfl | assumption | exact lk6 (by assumption) _ | exact lk2 (by assumption) _ | exact fb_l0 (by assumption) | exact fb_l1 (by assumption) | exact sb_l0 (by assumption) | exact sb_l1 (by assumption) | exact sb_l2 (by assumption) | exact sb_l3 (by assumption) | exact tb_l0 (by assumption) | exact tb_l1 (by assumption) | exact tb_l2 (by assumption) | exact lk2 (sb_li (by assumption)) _ | exact fb_l0 (sb_f (by assumption)) | exact fb_l1 (sb_f (by assumption))) ?_
      refine rw_getI F dc_X8_when_57 fl_RX8_197 (by first | rfl | assumption | decide | exact r73_k (by assumption) | exact fb_k (by assumption) | exact sb_k (by assumption) | exact tb_k (by assumption) | exact sb_li (by assumption) | exact sb_s (by assumption) | exact tb_n (by assumption) | exact fb_k (sb_f (by assumption))) (by first | rfl | assumption | exact lk6 (by assumption) _ | exact lk2 (by assumption) _ | exact fb_l0 (by assumption) | exact fb_l1 (by assumption) | exact sb_l0 (by assumption) | exact sb_l1 (by assumption) | exact sb_l2 (by assumption) | exact sb_l3 (by assumption) | exact tb_l0 (by assumption) | exact tb_l1 (by assumption) | exact tb_l2 (by assumption) | exact lk2 (sb_li (by assumption)) _ | exact fb_l0 (sb_f (by assumption)) | exact fb_l1 (sb_f (by assumption))) ?_
      refine rw_iload_n F dc_X8_when_60 rfl ?_
      refine rw_icmp_ne (tgt := 66) F dc_X8_when_61 rfl (fun c2 => ?_) (fun c2 => ?_)
      · rw [if_neg c2] at hp
        refine rw_aload_n F dc_X8_when_66 rfl ?_
        refine rw_aload_n F dc_X8_when_67 rfl ?_
        refine rw_getR F dc_X8_when_68 fl_RX8_53 (by first | rfl | assumption | decide | exact r73_k (by assumption) | exact fb_k (by assumption) | exact sb_k (by assumption) | exact tb_k (by assumption) | exact sb_li (by assumption) | exact sb_s (by assumption) | exact tb_n (by assumption) | exact fb_k (sb_f (by assumption))) (by first | rfl | assumption | exact lk6 (by assumption) _ | exact lk2 (by assumption) _ | exact fb_l0 (by assumption) | exact fb_l1 (by assumption) | exact sb_l0 (by assumption) | exact sb_l1 (by assumption) | exact sb_l2 (by assumption) | exact sb_l3 (by assumption) | exact tb_l0 (by assumption) | exact tb_l1 (by assumption) | exact tb_l2 (by assumption) | exact lk2 (sb_li (by assumption)) _ | exact fb_l0 (sb_f (by assumption)) | exact fb_l1 (sb_f (by assumption))) ?_
        refine rw_iload_n F dc_X8_when_71 rfl ?_
        refine rw_cVv F [_, _] dc_X8_when_72 mv_X8_sailTick ml_RX8_192 (by decide) (rc_8 (by first | rfl | assumption | decide | exact r73_k (by assumption) | exact fb_k (by assumption) | exact sb_k (by assumption) | exact tb_k (by assumption) | exact sb_li (by assumption) | exact sb_s (by assumption) | exact tb_n (by assumption) | exact fb_k (sb_f (by assumption)))) rfl rfl (Nat.le_of_ble_eq_true rfl) ct_X8_sailTick ?_
        refine rw_inc (n1 := 1) F dc_X8_when_75 rfl rfl (by decide) rfl ?_
        refine rw_goto (tgt := 46) F dc_X8_when_78 rfl ?_
        exact ih _ _ _ _ hp (by simpa only [if_neg c1, if_neg c2] using hq)
      · rw [if_pos c2] at hp
        refine rw_iload_n F dc_X8_when_64 rfl ?_
        refine rw_iret F dc_X8_when_65 rfl rfl ?_
        exact (by simpa only [if_neg c1, if_pos c2] using hq)
theorem cr_X8_when {E : tw_E}  {N : Nat}  {x1 : Int32} {x2 : Int32} {τ : tw_T} (hp : p_X8_when N x1 x2 τ)  : tw_Ci E 5 mX8_when [.ref 0, .int x1, .int x2] τ (f_X8_when N x1 x2 τ) (g_X8_when N x1 x2 τ) := by
  unfold p_X8_when at hp
  refine ct_of (by decide) (by simp [Value.category]) (Nat.le_of_ble_eq_true rfl) (fun K hE F => ?_)
  subst hE
  refine rw_aload_n F dc_X8_when_0 rfl ?_
  refine rw_iload_n F dc_X8_when_1 rfl ?_
  refine rw_cVi F [_] dc_X8_when_2 mv_X8_isShip ml_RX8_119 (by decide) (rc_8 (by first | rfl | assumption | decide | exact r73_k (by assumption) | exact fb_k (by assumption) | exact sb_k (by assumption) | exact tb_k (by assumption) | exact sb_li (by assumption) | exact sb_s (by assumption) | exact tb_n (by assumption) | exact fb_k (sb_f (by assumption)))) rfl rfl (Nat.le_of_ble_eq_true rfl) ct_X8_isShip ?_
  refine rw_if_eq (tgt := 18) F dc_X8_when_5 rfl (fun c1 => ?_) (fun c1 => ?_)
  · rw [if_pos c1] at hp
    refine rw_aload_n F dc_X8_when_18 rfl ?_
    refine rw_ldc F dc_X8_when_19 kc_RX8_82 ?_
    refine rw_cVi F [_] dc_X8_when_21 mv_X8_found ml_RX8_83 (by decide) (rc_8 (by first | rfl | assumption | decide | exact r73_k (by assumption) | exact fb_k (by assumption) | exact sb_k (by assumption) | exact tb_k (by assumption) | exact sb_li (by assumption) | exact sb_s (by assumption) | exact tb_n (by assumption) | exact fb_k (sb_f (by assumption)))) rfl rfl (Nat.le_of_ble_eq_true rfl) cn_X8_found ?_
    refine rw_iret F dc_X8_when_24 rfl rfl ?_
    exact ⟨by first | (simp only [f_X8_when, g_X8_when, if_pos c1]; done) | rfl | (simp only [f_X8_when, g_X8_when, if_pos c1]; rfl), by first | (simp only [f_X8_when, g_X8_when, if_pos c1]; done) | rfl | (simp only [f_X8_when, g_X8_when, if_pos c1]; rfl)⟩
  · rw [if_neg c1] at hp
    refine rw_iload_n F dc_X8_when_8 rfl ?_
    refine rw_iconst (v := 0) F dc_X8_when_9 rfl ?_
    refine rw_bipush (v := 23) F dc_X8_when_10 rfl ?_
    refine rw_cSi F [_, _, _] dc_X8_when_12 ms_X8_within ml_RX8_97 (by decide)  rfl rfl (Nat.le_of_ble_eq_true rfl) ct_X8_within ?_
    refine rw_if_ne (tgt := 25) F dc_X8_when_15 rfl (fun c2 => ?_) (fun c2 => ?_)
    · rw [if_neg c2] at hp
      refine rw_aload_n F dc_X8_when_25 rfl ?_
      refine rw_getR F dc_X8_when_26 fl_RX8_53 (by first | rfl | assumption | decide | exact r73_k (by assumption) | exact fb_k (by assumption) | exact sb_k (by assumption) | exact tb_k (by assumption) | exact sb_li (by assumption) | exact sb_s (by assumption) | exact tb_n (by assumption) | exact fb_k (sb_f (by assumption))) (by first | rfl | assumption | exact lk6 (by assumption) _ | exact lk2 (by assumption) _ | exact fb_l0 (by assumption) | exact fb_l1 (by assumption) | exact sb_l0 (by assumption) | exact sb_l1 (by assumption) | exact sb_l2 (by assumption) | exact sb_l3 (by assumption) | exact tb_l0 (by assumption) | exact tb_l1 (by assumption) | exact tb_l2 (by assumption) | exact lk2 (sb_li (by assumption)) _ | exact fb_l0 (sb_f (by assumption)) | exact fb_l1 (sb_f (by assumption))) ?_
      refine rw_aload_n F dc_X8_when_29 rfl ?_
      refine rw_getR F dc_X8_when_30 fl_RX8_12 (by first | rfl | assumption | decide | exact r73_k (by assumption) | exact fb_k (by assumption) | exact sb_k (by assumption) | exact tb_k (by assumption) | exact sb_li (by assumption) | exact sb_s (by assumption) | exact tb_n (by assumption) | exact fb_k (sb_f (by assumption))) (by first | rfl | assumption | exact lk6 (by assumption) _ | exact lk2 (by assumption) _ | exact fb_l0 (by assumption) | exact fb_l1 (by assumption) | exact sb_l0 (by assumption) | exact sb_l1 (by assumption) | exact sb_l2 (by assumption) | exact sb_l3 (by assumption) | exact tb_l0 (by assumption) | exact tb_l1 (by assumption) | exact tb_l2 (by assumption) | exact lk2 (sb_li (by assumption)) _ | exact fb_l0 (sb_f (by assumption)) | exact fb_l1 (sb_f (by assumption))) ?_
      refine rw_getR F dc_X8_when_33 fl_RX8_101 (by first | rfl | assumption | decide | exact r73_k (by assumption) | exact fb_k (by assumption) | exact sb_k (by assumption) | exact tb_k (by assumption) | exact sb_li (by assumption) | exact sb_s (by assumption) | exact tb_n (by assumption) | exact fb_k (sb_f (by assumption))) (by first | rfl | assumption | exact lk6 (by assumption) _ | exact lk2 (by assumption) _ | exact fb_l0 (by assumption) | exact fb_l1 (by assumption) | exact sb_l0 (by assumption) | exact sb_l1 (by assumption) | exact sb_l2 (by assumption) | exact sb_l3 (by assumption) | exact tb_l0 (by assumption) | exact tb_l1 (by assumption) | exact tb_l2 (by assumption) | exact lk2 (sb_li (by assumption)) _ | exact fb_l0 (sb_f (by assumption)) | exact fb_l1 (sb_f (by assumption))) ?_
      refine rw_getR F dc_X8_when_36 fl_RX8_123 (by first | rfl | assumption | decide | exact r73_k (by assumption) | exact fb_k (by assumption) | exact sb_k (by assumption) | exact tb_k (by assumption) | exact sb_li (by assumption) | exact sb_s (by assumption) | exact tb_n (by assumption) | exact fb_k (sb_f (by assumption))) (by first | rfl | assumption | exact lk6 (by assumption) _ | exact lk2 (by assumption) _ | exact fb_l0 (by assumption) | exact fb_l1 (by assumption) | exact sb_l0 (by assumption) | exact sb_l1 (by assumption) | exact sb_l2 (by assumption) | exact sb_l3 (by assumption) | exact tb_l0 (by assumption) | exact tb_l1 (by assumption) | exact tb_l2 (by assumption) | exact lk2 (sb_li (by assumption)) _ | exact fb_l0 (sb_f (by assumption)) | exact fb_l1 (sb_f (by assumption))) ?_
      refine rw_iload_n F dc_X8_when_39 rfl ?_
      obtain ⟨hs3, hp⟩ := hp
      refine rw_aaShip F dc_X8_when_40 (by first | assumption | exact (show _ ∈ tw_fbL by decide) | exact sb_f (by assumption)) hs3 (fun hk4 => ?_)
      refine rw_cVv F [_] dc_X8_when_41 mv_X6_take ml_RX8_175 (by decide) (rc_6 (by first | rfl | assumption | decide | exact r73_k (by assumption) | exact fb_k (by assumption) | exact sb_k (by assumption) | exact tb_k (by assumption) | exact sb_li (by assumption) | exact sb_s (by assumption) | exact tb_n (by assumption) | exact fb_k (sb_f (by assumption)))) rfl rfl (Nat.le_of_ble_eq_true rfl) ct_X6_take ?_
      refine rw_iconst (v := 0) F dc_X8_when_44 rfl ?_
      refine rw_istore_n F dc_X8_when_45 (by decide) rfl ?_
      exact lp_X8_when_46 F  N N _ _ _ _ hp ⟨by first | (simp only [f_X8_when, g_X8_when, if_neg c1, if_neg c2]; done) | rfl | (simp only [f_X8_when, g_X8_when, if_neg c1, if_neg c2]; rfl), by first | (simp only [f_X8_when, g_X8_when, if_neg c1, if_neg c2]; done) | rfl | (simp only [f_X8_when, g_X8_when, if_neg c1, if_neg c2]; rfl)⟩
    · rw [if_pos c2] at hp
      refine rw_aload_n F dc_X8_when_18 rfl ?_
      refine rw_ldc F dc_X8_when_19 kc_RX8_82 ?_
      refine rw_cVi F [_] dc_X8_when_21 mv_X8_found ml_RX8_83 (by decide) (rc_8 (by first | rfl | assumption | decide | exact r73_k (by assumption) | exact fb_k (by assumption) | exact sb_k (by assumption) | exact tb_k (by assumption) | exact sb_li (by assumption) | exact sb_s (by assumption) | exact tb_n (by assumption) | exact fb_k (sb_f (by assumption)))) rfl rfl (Nat.le_of_ble_eq_true rfl) cn_X8_found ?_
      refine rw_iret F dc_X8_when_24 rfl rfl ?_
      exact ⟨by first | (simp only [f_X8_when, g_X8_when, if_neg c1, if_pos c2]; done) | rfl | (simp only [f_X8_when, g_X8_when, if_neg c1, if_pos c2]; rfl), by first | (simp only [f_X8_when, g_X8_when, if_neg c1, if_pos c2]; done) | rfl | (simp only [f_X8_when, g_X8_when, if_neg c1, if_pos c2]; rfl)⟩
def lf_X8_meet_68 (N : Nat)  : Nat → Int32 → Int32 → Int32 → tw_T → Int32
  | 0, _, _, _, _ => 0
  | n + 1, x1, x2, x3, τ => if (200 : Int32) < x3 then ((-1000004)) else (if (τ 45 1) = (τ 46 1) then x3 else (lf_X8_meet_68 N n x1 x2 (x3 + 1) (g_X8_sailTick 46 x3 (g_X8_sailTick 45 x3 τ))))
def lg_X8_meet_68 (N : Nat)  : Nat → Int32 → Int32 → Int32 → tw_T → tw_T
  | 0, _, _, _, τ => τ
  | n + 1, x1, x2, x3, τ => if (200 : Int32) < x3 then (g_X8_found ((-1000004)) τ) else (if (τ 45 1) = (τ 46 1) then τ else (lg_X8_meet_68 N n x1 x2 (x3 + 1) (g_X8_sailTick 46 x3 (g_X8_sailTick 45 x3 τ))))
def lo_X8_meet_68 (N : Nat)  : Nat → Int32 → Int32 → Int32 → tw_T → Prop
  | 0, _, _, _, _ => False
  | n + 1, x1, x2, x3, τ => if (200 : Int32) < x3 then True else (if (τ 45 1) = (τ 46 1) then True else (lo_X8_meet_68 N n x1 x2 (x3 + 1) (g_X8_sailTick 46 x3 (g_X8_sailTick 45 x3 τ))))
def f_X8_meet (N : Nat)  (x1 : Int32) (x2 : Int32) (τ : tw_T) : Int32 := if (f_X8_isShip x1 τ) = (0 : Int32) then ((-1000001)) else (if (f_X8_isShip x2 τ) = (0 : Int32) then ((-1000001)) else (if x1 = x2 then ((-1000001)) else (lf_X8_meet_68 N N x1 x2 0 (g_X6_take 46 (3 + 2 + x2.toNatClampNeg) (g_X6_take 45 (3 + 2 + x1.toNatClampNeg) τ)))))
def g_X8_meet (N : Nat)  (x1 : Int32) (x2 : Int32) (τ : tw_T) : tw_T := if (f_X8_isShip x1 τ) = (0 : Int32) then (g_X8_found ((-1000001)) τ) else (if (f_X8_isShip x2 τ) = (0 : Int32) then (g_X8_found ((-1000001)) τ) else (if x1 = x2 then (g_X8_found ((-1000001)) τ) else (lg_X8_meet_68 N N x1 x2 0 (g_X6_take 46 (3 + 2 + x2.toNatClampNeg) (g_X6_take 45 (3 + 2 + x1.toNatClampNeg) τ)))))
def p_X8_meet (N : Nat)  (x1 : Int32) (x2 : Int32) (τ : tw_T) : Prop := if (f_X8_isShip x1 τ) = (0 : Int32) then True else (if (f_X8_isShip x2 τ) = (0 : Int32) then True else (if x1 = x2 then True else (vp_in x1 8 ∧ (vp_in x2 8 ∧ (lo_X8_meet_68 N N x1 x2 0 (g_X6_take 46 (3 + 2 + x2.toNatClampNeg) (g_X6_take 45 (3 + 2 + x1.toNatClampNeg) τ)))))))
theorem lp_X8_meet_68 {K : tw_K} {Q : Option Value → tw_T → Prop} (F : tw_F K mX8_meet 5 Q)   (N : Nat)  : ∀ (n : Nat) (x1 : Int32) (x2 : Int32) (x3 : Int32) (τ : tw_T), lo_X8_meet_68 N n x1 x2 x3 τ → Q (some (.int (lf_X8_meet_68 N n x1 x2 x3 τ))) (lg_X8_meet_68 N n x1 x2 x3 τ) → tw_R K 68 [.ref 0, .int x1, .int x2, .int x3] [] τ := by
  intro n
  induction n with
  | zero => intro x1 x2 x3 τ hp _; exact False.elim hp
  | succ n ih =>
    intro x1 x2 x3 τ hp hq
    simp only [lo_X8_meet_68] at hp
    simp only [lf_X8_meet_68, lg_X8_meet_68] at hq
    refine rw_iload_n F dc_X8_meet_68 rfl ?_
    refine rw_sipush (v := 200) F dc_X8_meet_69 rfl ?_
    refine rw_icmp_gt (tgt := 118) F dc_X8_meet_72 rfl (fun c1 => ?_) (fun c1 => ?_)
    · rw [if_pos c1] at hp
      refine rw_aload_n F dc_X8_meet_118 rfl ?_
      refine rw_ldc F dc_X8_meet_119 kc_RX8_196 ?_
      refine rw_cVi F [_] dc_X8_meet_121 mv_X8_found ml_RX8_83 (by decide) (rc_8 (by first | rfl | assumption | decide | exact r73_k (by assumption) | exact fb_k (by assumption) | exact sb_k (by assumption) | exact tb_k (by assumption) | exact sb_li (by assumption) | exact sb_s (by assumption) | exact tb_n (by assumption) | exact fb_k (sb_f (by assumption)))) rfl rfl (Nat.le_of_ble_eq_true rfl) cn_X8_found ?_
      refine rw_iret F dc_X8_meet_124 rfl rfl ?_
      exact (by simpa only [if_pos c1] using hq)
    · rw [if_neg c1] at hp
      refine rw_aload_n F dc_X8_meet_75 rfl ?_
      refine rw_getR F dc_X8_meet_76 fl_RX8_53 (by first | rfl | assumption | decide | exact r73_k (by assumption) | exact fb_k (by assumption) | exact sb_k (by assumption) | exact tb_k (by assumption) | exact sb_li (by assumption) | exact sb_s (by assumption) | exact tb_n (by assumption) | exact fb_k (sb_f (by assumption))) (by first | rfl | assumption | exact lk6 (by assumption) _ | exact lk2 (by assumption) _ | exact fb_l0 (by assumption) | exact fb_l1 (by assumption) | exact sb_l0 (by assumption) | exact sb_l1 (by assumption) | exact sb_l2 (by assumption) | exact sb_l3 (by assumption) | exact tb_l0 (by assumption) | exact tb_l1 (by assumption) | exact tb_l2 (by assumption) | exact lk2 (sb_li (by assumption)) _ | exact fb_l0 (sb_f (by assumption)) | exact fb_l1 (sb_f (by assumption))) ?_
      refine rw_getI F dc_X8_meet_79 fl_RX8_197 (by first | rfl | assumption | decide | exact r73_k (by assumption) | exact fb_k (by assumption) | exact sb_k (by assumption) | exact tb_k (by assumption) | exact sb_li (by assumption) | exact sb_s (by assumption) | exact tb_n (by assumption) | exact fb_k (sb_f (by assumption))) (by first | rfl | assumption | exact lk6 (by assumption) _ | exact lk2 (by assumption) _ | exact fb_l0 (by assumption) | exact fb_l1 (by assumption) | exact sb_l0 (by assumption) | exact sb_l1 (by assumption) | exact sb_l2 (by assumption) | exact sb_l3 (by assumption) | exact tb_l0 (by assumption) | exact tb_l1 (by assumption) | exact tb_l2 (by assumption) | exact lk2 (sb_li (by assumption)) _ | exact fb_l0 (sb_f (by assumption)) | exact fb_l1 (sb_f (by assumption))) ?_
      refine rw_aload_n F dc_X8_meet_82 rfl ?_
      refine rw_getR F dc_X8_meet_83 fl_RX8_57 (by first | rfl | assumption | decide | exact r73_k (by assumption) | exact fb_k (by assumption) | exact sb_k (by assumption) | exact tb_k (by assumption) | exact sb_li (by assumption) | exact sb_s (by assumption) | exact tb_n (by assumption) | exact fb_k (sb_f (by assumption))) (by first | rfl | assumption | exact lk6 (by assumption) _ | exact lk2 (by assumption) _ | exact fb_l0 (by assumption) | exact fb_l1 (by assumption) | exact sb_l0 (by assumption) | exact sb_l1 (by assumption) | exact sb_l2 (by assumption) | exact sb_l3 (by assumption) | exact tb_l0 (by assumption) | exact tb_l1 (by assumption) | exact tb_l2 (by assumption) | exact lk2 (sb_li (by assumption)) _ | exact fb_l0 (sb_f (by assumption)) | exact fb_l1 (sb_f (by assumption))) ?_
      refine rw_getI F dc_X8_meet_86 fl_RX8_197 (by first | rfl | assumption | decide | exact r73_k (by assumption) | exact fb_k (by assumption) | exact sb_k (by assumption) | exact tb_k (by assumption) | exact sb_li (by assumption) | exact sb_s (by assumption) | exact tb_n (by assumption) | exact fb_k (sb_f (by assumption))) (by first | rfl | assumption | exact lk6 (by assumption) _ | exact lk2 (by assumption) _ | exact fb_l0 (by assumption) | exact fb_l1 (by assumption) | exact sb_l0 (by assumption) | exact sb_l1 (by assumption) | exact sb_l2 (by assumption) | exact sb_l3 (by assumption) | exact tb_l0 (by assumption) | exact tb_l1 (by assumption) | exact tb_l2 (by assumption) | exact lk2 (sb_li (by assumption)) _ | exact fb_l0 (sb_f (by assumption)) | exact fb_l1 (sb_f (by assumption))) ?_
      refine rw_icmp_ne (tgt := 94) F dc_X8_meet_89 rfl (fun c2 => ?_) (fun c2 => ?_)
      · rw [if_neg c2] at hp
        refine rw_aload_n F dc_X8_meet_94 rfl ?_
        refine rw_aload_n F dc_X8_meet_95 rfl ?_
        refine rw_getR F dc_X8_meet_96 fl_RX8_53 (by first | rfl | assumption | decide | exact r73_k (by assumption) | exact fb_k (by assumption) | exact sb_k (by assumption) | exact tb_k (by assumption) | exact sb_li (by assumption) | exact sb_s (by assumption) | exact tb_n (by assumption) | exact fb_k (sb_f (by assumption))) (by first | rfl | assumption | exact lk6 (by assumption) _ | exact lk2 (by assumption) _ | exact fb_l0 (by assumption) | exact fb_l1 (by assumption) | exact sb_l0 (by assumption) | exact sb_l1 (by assumption) | exact sb_l2 (by assumption) | exact sb_l3 (by assumption) | exact tb_l0 (by assumption) | exact tb_l1 (by assumption) | exact tb_l2 (by assumption) | exact lk2 (sb_li (by assumption)) _ | exact fb_l0 (sb_f (by assumption)) | exact fb_l1 (sb_f (by assumption))) ?_
        refine rw_iload_n F dc_X8_meet_99 rfl ?_
        refine rw_cVv F [_, _] dc_X8_meet_100 mv_X8_sailTick ml_RX8_192 (by decide) (rc_8 (by first | rfl | assumption | decide | exact r73_k (by assumption) | exact fb_k (by assumption) | exact sb_k (by assumption) | exact tb_k (by assumption) | exact sb_li (by assumption) | exact sb_s (by assumption) | exact tb_n (by assumption) | exact fb_k (sb_f (by assumption)))) rfl rfl (Nat.le_of_ble_eq_true rfl) ct_X8_sailTick ?_
        refine rw_aload_n F dc_X8_meet_103 rfl ?_
        refine rw_aload_n F dc_X8_meet_104 rfl ?_
        refine rw_getR F dc_X8_meet_105 fl_RX8_57 (by first | rfl | assumption | decide | exact r73_k (by assumption) | exact fb_k (by assumption) | exact sb_k (by assumption) | exact tb_k (by assumption) | exact sb_li (by assumption) | exact sb_s (by assumption) | exact tb_n (by assumption) | exact fb_k (sb_f (by assumption))) (by first | rfl | assumption | exact lk6 (by assumption) _ | exact lk2 (by assumption) _ | exact fb_l0 (by assumption) | exact fb_l1 (by assumption) | exact sb_l0 (by assumption) | exact sb_l1 (by assumption) | exact sb_l2 (by assumption) | exact sb_l3 (by assumption) | exact tb_l0 (by assumption) | exact tb_l1 (by assumption) | exact tb_l2 (by assumption) | exact lk2 (sb_li (by assumption)) _ | exact fb_l0 (sb_f (by assumption)) | exact fb_l1 (sb_f (by assumption))) ?_
        refine rw_iload_n F dc_X8_meet_108 rfl ?_
        refine rw_cVv F [_, _] dc_X8_meet_109 mv_X8_sailTick ml_RX8_192 (by decide) (rc_8 (by first | rfl | assumption | decide | exact r73_k (by assumption) | exact fb_k (by assumption) | exact sb_k (by assumption) | exact tb_k (by assumption) | exact sb_li (by assumption) | exact sb_s (by assumption) | exact tb_n (by assumption) | exact fb_k (sb_f (by assumption)))) rfl rfl (Nat.le_of_ble_eq_true rfl) ct_X8_sailTick ?_
        refine rw_inc (n1 := 1) F dc_X8_meet_112 rfl rfl (by decide) rfl ?_
        refine rw_goto (tgt := 68) F dc_X8_meet_115 rfl ?_
        exact ih _ _ _ _ hp (by simpa only [if_neg c1, if_neg c2] using hq)
      · rw [if_pos c2] at hp
        refine rw_iload_n F dc_X8_meet_92 rfl ?_
        refine rw_iret F dc_X8_meet_93 rfl rfl ?_
        exact (by simpa only [if_neg c1, if_pos c2] using hq)
theorem cr_X8_meet {E : tw_E}  {N : Nat}  {x1 : Int32} {x2 : Int32} {τ : tw_T} (hp : p_X8_meet N x1 x2 τ)  : tw_Ci E 5 mX8_meet [.ref 0, .int x1, .int x2] τ (f_X8_meet N x1 x2 τ) (g_X8_meet N x1 x2 τ) := by
  unfold p_X8_meet at hp
  refine ct_of (by decide) (by simp [Value.category]) (Nat.le_of_ble_eq_true rfl) (fun K hE F => ?_)
  subst hE
  refine rw_aload_n F dc_X8_meet_0 rfl ?_
  refine rw_iload_n F dc_X8_meet_1 rfl ?_
  refine rw_cVi F [_] dc_X8_meet_2 mv_X8_isShip ml_RX8_119 (by decide) (rc_8 (by first | rfl | assumption | decide | exact r73_k (by assumption) | exact fb_k (by assumption) | exact sb_k (by assumption) | exact tb_k (by assumption) | exact sb_li (by assumption) | exact sb_s (by assumption) | exact tb_n (by assumption) | exact fb_k (sb_f (by assumption)))) rfl rfl (Nat.le_of_ble_eq_true rfl) ct_X8_isShip ?_
  refine rw_if_eq (tgt := 21) F dc_X8_meet_5 rfl (fun c1 => ?_) (fun c1 => ?_)
  · rw [if_pos c1] at hp
    refine rw_aload_n F dc_X8_meet_21 rfl ?_
    refine rw_ldc F dc_X8_meet_22 kc_RX8_82 ?_
    refine rw_cVi F [_] dc_X8_meet_24 mv_X8_found ml_RX8_83 (by decide) (rc_8 (by first | rfl | assumption | decide | exact r73_k (by assumption) | exact fb_k (by assumption) | exact sb_k (by assumption) | exact tb_k (by assumption) | exact sb_li (by assumption) | exact sb_s (by assumption) | exact tb_n (by assumption) | exact fb_k (sb_f (by assumption)))) rfl rfl (Nat.le_of_ble_eq_true rfl) cn_X8_found ?_
    refine rw_iret F dc_X8_meet_27 rfl rfl ?_
    exact ⟨by first | (simp only [f_X8_meet, g_X8_meet, if_pos c1]; done) | rfl | (simp only [f_X8_meet, g_X8_meet, if_pos c1]; rfl), by first | (simp only [f_X8_meet, g_X8_meet, if_pos c1]; done) | rfl | (simp only [f_X8_meet, g_X8_meet, if_pos c1]; rfl)⟩
  · rw [if_neg c1] at hp
    refine rw_aload_n F dc_X8_meet_8 rfl ?_
    refine rw_iload_n F dc_X8_meet_9 rfl ?_
    refine rw_cVi F [_] dc_X8_meet_10 mv_X8_isShip ml_RX8_119 (by decide) (rc_8 (by first | rfl | assumption | decide | exact r73_k (by assumption) | exact fb_k (by assumption) | exact sb_k (by assumption) | exact tb_k (by assumption) | exact sb_li (by assumption) | exact sb_s (by assumption) | exact tb_n (by assumption) | exact fb_k (sb_f (by assumption)))) rfl rfl (Nat.le_of_ble_eq_true rfl) ct_X8_isShip ?_
    refine rw_if_eq (tgt := 21) F dc_X8_meet_13 rfl (fun c2 => ?_) (fun c2 => ?_)
    · rw [if_pos c2] at hp
      refine rw_aload_n F dc_X8_meet_21 rfl ?_
      refine rw_ldc F dc_X8_meet_22 kc_RX8_82 ?_
      refine rw_cVi F [_] dc_X8_meet_24 mv_X8_found ml_RX8_83 (by decide) (rc_8 (by first | rfl | assumption | decide | exact r73_k (by assumption) | exact fb_k (by assumption) | exact sb_k (by assumption) | exact tb_k (by assumption) | exact sb_li (by assumption) | exact sb_s (by assumption) | exact tb_n (by assumption) | exact fb_k (sb_f (by assumption)))) rfl rfl (Nat.le_of_ble_eq_true rfl) cn_X8_found ?_
      refine rw_iret F dc_X8_meet_27 rfl rfl ?_
      exact ⟨by first | (simp only [f_X8_meet, g_X8_meet, if_neg c1, if_pos c2]; done) | rfl | (simp only [f_X8_meet, g_X8_meet, if_neg c1, if_pos c2]; rfl), by first | (simp only [f_X8_meet, g_X8_meet, if_neg c1, if_pos c2]; done) | rfl | (simp only [f_X8_meet, g_X8_meet, if_neg c1, if_pos c2]; rfl)⟩
    · rw [if_neg c2] at hp
      refine rw_iload_n F dc_X8_meet_16 rfl ?_
      refine rw_iload_n F dc_X8_meet_17 rfl ?_
      refine rw_icmp_ne (tgt := 28) F dc_X8_meet_18 rfl (fun c3 => ?_) (fun c3 => ?_)
      · rw [if_neg c3] at hp
        refine rw_aload_n F dc_X8_meet_28 rfl ?_
        refine rw_getR F dc_X8_meet_29 fl_RX8_53 (by first | rfl | assumption | decide | exact r73_k (by assumption) | exact fb_k (by assumption) | exact sb_k (by assumption) | exact tb_k (by assumption) | exact sb_li (by assumption) | exact sb_s (by assumption) | exact tb_n (by assumption) | exact fb_k (sb_f (by assumption))) (by first | rfl | assumption | exact lk6 (by assumption) _ | exact lk2 (by assumption) _ | exact fb_l0 (by assumption) | exact fb_l1 (by assumption) | exact sb_l0 (by assumption) | exact sb_l1 (by assumption) | exact sb_l2 (by assumption) | exact sb_l3 (by assumption) | exact tb_l0 (by assumption) | exact tb_l1 (by assumption) | exact tb_l2 (by assumption) | exact lk2 (sb_li (by assumption)) _ | exact fb_l0 (sb_f (by assumption)) | exact fb_l1 (sb_f (by assumption))) ?_
        refine rw_aload_n F dc_X8_meet_32 rfl ?_
        refine rw_getR F dc_X8_meet_33 fl_RX8_12 (by first | rfl | assumption | decide | exact r73_k (by assumption) | exact fb_k (by assumption) | exact sb_k (by assumption) | exact tb_k (by assumption) | exact sb_li (by assumption) | exact sb_s (by assumption) | exact tb_n (by assumption) | exact fb_k (sb_f (by assumption))) (by first | rfl | assumption | exact lk6 (by assumption) _ | exact lk2 (by assumption) _ | exact fb_l0 (by assumption) | exact fb_l1 (by assumption) | exact sb_l0 (by assumption) | exact sb_l1 (by assumption) | exact sb_l2 (by assumption) | exact sb_l3 (by assumption) | exact tb_l0 (by assumption) | exact tb_l1 (by assumption) | exact tb_l2 (by assumption) | exact lk2 (sb_li (by assumption)) _ | exact fb_l0 (sb_f (by assumption)) | exact fb_l1 (sb_f (by assumption))) ?_
        refine rw_getR F dc_X8_meet_36 fl_RX8_101 (by first | rfl | assumption | decide | exact r73_k (by assumption) | exact fb_k (by assumption) | exact sb_k (by assumption) | exact tb_k (by assumption) | exact sb_li (by assumption) | exact sb_s (by assumption) | exact tb_n (by assumption) | exact fb_k (sb_f (by assumption))) (by first | rfl | assumption | exact lk6 (by assumption) _ | exact lk2 (by assumption) _ | exact fb_l0 (by assumption) | exact fb_l1 (by assumption) | exact sb_l0 (by assumption) | exact sb_l1 (by assumption) | exact sb_l2 (by assumption) | exact sb_l3 (by assumption) | exact tb_l0 (by assumption) | exact tb_l1 (by assumption) | exact tb_l2 (by assumption) | exact lk2 (sb_li (by assumption)) _ | exact fb_l0 (sb_f (by assumption)) | exact fb_l1 (sb_f (by assumption))) ?_
        refine rw_getR F dc_X8_meet_39 fl_RX8_123 (by first | rfl | assumption | decide | exact r73_k (by assumption) | exact fb_k (by assumption) | exact sb_k (by assumption) | exact tb_k (by assumption) | exact sb_li (by assumption) | exact sb_s (by assumption) | exact tb_n (by assumption) | exact fb_k (sb_f (by assumption))) (by first | rfl | assumption | exact lk6 (by assumption) _ | exact lk2 (by assumption) _ | exact fb_l0 (by assumption) | exact fb_l1 (by assumption) | exact sb_l0 (by assumption) | exact sb_l1 (by assumption) | exact sb_l2 (by assumption) | exact sb_l3 (by assumption) | exact tb_l0 (by assumption) | exact tb_l1 (by assumption) | exact tb_l2 (by assumption) | exact lk2 (sb_li (by assumption)) _ | exact fb_l0 (sb_f (by assumption)) | exact fb_l1 (sb_f (by assumption))) ?_
        refine rw_iload_n F dc_X8_meet_42 rfl ?_
        obtain ⟨hs4, hp⟩ := hp
        refine rw_aaShip F dc_X8_meet_43 (by first | assumption | exact (show _ ∈ tw_fbL by decide) | exact sb_f (by assumption)) hs4 (fun hk5 => ?_)
        refine rw_cVv F [_] dc_X8_meet_44 mv_X6_take ml_RX8_175 (by decide) (rc_6 (by first | rfl | assumption | decide | exact r73_k (by assumption) | exact fb_k (by assumption) | exact sb_k (by assumption) | exact tb_k (by assumption) | exact sb_li (by assumption) | exact sb_s (by assumption) | exact tb_n (by assumption) | exact fb_k (sb_f (by assumption)))) rfl rfl (Nat.le_of_ble_eq_true rfl) ct_X6_take ?_
        refine rw_aload_n F dc_X8_meet_47 rfl ?_
        refine rw_getR F dc_X8_meet_48 fl_RX8_57 (by first | rfl | assumption | decide | exact r73_k (by assumption) | exact fb_k (by assumption) | exact sb_k (by assumption) | exact tb_k (by assumption) | exact sb_li (by assumption) | exact sb_s (by assumption) | exact tb_n (by assumption) | exact fb_k (sb_f (by assumption))) (by first | rfl | assumption | exact lk6 (by assumption) _ | exact lk2 (by assumption) _ | exact fb_l0 (by assumption) | exact fb_l1 (by assumption) | exact sb_l0 (by assumption) | exact sb_l1 (by assumption) | exact sb_l2 (by assumption) | exact sb_l3 (by assumption) | exact tb_l0 (by assumption) | exact tb_l1 (by assumption) | exact tb_l2 (by assumption) | exact lk2 (sb_li (by assumption)) _ | exact fb_l0 (sb_f (by assumption)) | exact fb_l1 (sb_f (by assumption))) ?_
        refine rw_aload_n F dc_X8_meet_51 rfl ?_
        refine rw_getR F dc_X8_meet_52 fl_RX8_12 (by first | rfl | assumption | decide | exact r73_k (by assumption) | exact fb_k (by assumption) | exact sb_k (by assumption) | exact tb_k (by assumption) | exact sb_li (by assumption) | exact sb_s (by assumption) | exact tb_n (by assumption) | exact fb_k (sb_f (by assumption))) (by first | rfl | assumption | exact lk6 (by assumption) _ | exact lk2 (by assumption) _ | exact fb_l0 (by assumption) | exact fb_l1 (by assumption) | exact sb_l0 (by assumption) | exact sb_l1 (by assumption) | exact sb_l2 (by assumption) | exact sb_l3 (by assumption) | exact tb_l0 (by assumption) | exact tb_l1 (by assumption) | exact tb_l2 (by assumption) | exact lk2 (sb_li (by assumption)) _ | exact fb_l0 (sb_f (by assumption)) | exact fb_l1 (sb_f (by assumption))) ?_
        refine rw_getR F dc_X8_meet_55 fl_RX8_101 (by first | rfl | assumption | decide | exact r73_k (by assumption) | exact fb_k (by assumption) | exact sb_k (by assumption) | exact tb_k (by assumption) | exact sb_li (by assumption) | exact sb_s (by assumption) | exact tb_n (by assumption) | exact fb_k (sb_f (by assumption))) (by first | rfl | assumption | exact lk6 (by assumption) _ | exact lk2 (by assumption) _ | exact fb_l0 (by assumption) | exact fb_l1 (by assumption) | exact sb_l0 (by assumption) | exact sb_l1 (by assumption) | exact sb_l2 (by assumption) | exact sb_l3 (by assumption) | exact tb_l0 (by assumption) | exact tb_l1 (by assumption) | exact tb_l2 (by assumption) | exact lk2 (sb_li (by assumption)) _ | exact fb_l0 (sb_f (by assumption)) | exact fb_l1 (sb_f (by assumption))) ?_
        refine rw_getR F dc_X8_meet_58 fl_RX8_123 (by first | rfl | assumption | decide | exact r73_k (by assumption) | exact fb_k (by assumption) | exact sb_k (by assumption) | exact tb_k (by assumption) | exact sb_li (by assumption) | exact sb_s (by assumption) | exact tb_n (by assumption) | exact fb_k (sb_f (by assumption))) (by first | rfl | assumption | exact lk6 (by assumption) _ | exact lk2 (by assumption) _ | exact fb_l0 (by assumption) | exact fb_l1 (by assumption) | exact sb_l0 (by assumption) | exact sb_l1 (by assumption) | exact sb_l2 (by assumption) | exact sb_l3 (by assumption) | exact tb_l0 (by assumption) | exact tb_l1 (by assumption) | exact tb_l2 (by assumption) | exact lk2 (sb_li (by assumption)) _ | exact fb_l0 (sb_f (by assumption)) | exact fb_l1 (sb_f (by assumption))) ?_
        refine rw_iload_n F dc_X8_meet_61 rfl ?_
        obtain ⟨hs6, hp⟩ := hp
        refine rw_aaShip F dc_X8_meet_62 (by first | assumption | exact (show _ ∈ tw_fbL by decide) | exact sb_f (by assumption)) hs6 (fun hk7 => ?_)
        refine rw_cVv F [_] dc_X8_meet_63 mv_X6_take ml_RX8_175 (by decide) (rc_6 (by first | rfl | assumption | decide | exact r73_k (by assumption) | exact fb_k (by assumption) | exact sb_k (by assumption) | exact tb_k (by assumption) | exact sb_li (by assumption) | exact sb_s (by assumption) | exact tb_n (by assumption) | exact fb_k (sb_f (by assumption)))) rfl rfl (Nat.le_of_ble_eq_true rfl) ct_X6_take ?_
        refine rw_iconst (v := 0) F dc_X8_meet_66 rfl ?_
        refine rw_istore_n F dc_X8_meet_67 (by decide) rfl ?_
        exact lp_X8_meet_68 F  N N _ _ _ _ hp ⟨by first | (simp only [f_X8_meet, g_X8_meet, if_neg c1, if_neg c2, if_neg c3]; done) | rfl | (simp only [f_X8_meet, g_X8_meet, if_neg c1, if_neg c2, if_neg c3]; rfl), by first | (simp only [f_X8_meet, g_X8_meet, if_neg c1, if_neg c2, if_neg c3]; done) | rfl | (simp only [f_X8_meet, g_X8_meet, if_neg c1, if_neg c2, if_neg c3]; rfl)⟩
      · rw [if_pos c3] at hp
        refine rw_aload_n F dc_X8_meet_21 rfl ?_
        refine rw_ldc F dc_X8_meet_22 kc_RX8_82 ?_
        refine rw_cVi F [_] dc_X8_meet_24 mv_X8_found ml_RX8_83 (by decide) (rc_8 (by first | rfl | assumption | decide | exact r73_k (by assumption) | exact fb_k (by assumption) | exact sb_k (by assumption) | exact tb_k (by assumption) | exact sb_li (by assumption) | exact sb_s (by assumption) | exact tb_n (by assumption) | exact fb_k (sb_f (by assumption)))) rfl rfl (Nat.le_of_ble_eq_true rfl) cn_X8_found ?_
        refine rw_iret F dc_X8_meet_27 rfl rfl ?_
        exact ⟨by first | (simp only [f_X8_meet, g_X8_meet, if_neg c1, if_neg c2, if_pos c3]; done) | rfl | (simp only [f_X8_meet, g_X8_meet, if_neg c1, if_neg c2, if_pos c3]; rfl), by first | (simp only [f_X8_meet, g_X8_meet, if_neg c1, if_neg c2, if_pos c3]; done) | rfl | (simp only [f_X8_meet, g_X8_meet, if_neg c1, if_neg c2, if_pos c3]; rfl)⟩
def lf_X8_keepIn_39 (N : Nat)  : Nat → Int32 → Int32 → Int32 → tw_T → Int32
  | 0, _, _, _, _ => 0
  | n + 1, x1, x2, x4, τ => if (τ 3 1) ≤ x4 then (if (f_X8_fewestToKeep N (τ 3 1) (x1 - (f_X1_strandedOfAll N 3 τ)) τ) < (0 : Int32) then ((-1000004)) else (f_X8_fewestToKeep N (τ 3 1) (x1 - (f_X1_strandedOfAll N 3 τ)) τ)) else (lf_X8_keepIn_39 N n x1 x2 (x4 + 1) (tw_sr (g_X6_sailOn N 45 2 x2 (g_X6_take 45 (3 + 2 + x4.toNatClampNeg) τ)) 47 (upd ((g_X6_sailOn N 45 2 x2 (g_X6_take 45 (3 + 2 + x4.toNatClampNeg) τ)) 47) x4.toNatClampNeg (((g_X6_sailOn N 45 2 x2 (g_X6_take 45 (3 + 2 + x4.toNatClampNeg) τ)) 45 5) - ((g_X6_sailOn N 45 2 x2 (g_X6_take 45 (3 + 2 + x4.toNatClampNeg) τ)) (3 + 2 + x4.toNatClampNeg) 5)))))
def lg_X8_keepIn_39 (N : Nat)  : Nat → Int32 → Int32 → Int32 → tw_T → tw_T
  | 0, _, _, _, τ => τ
  | n + 1, x1, x2, x4, τ => if (τ 3 1) ≤ x4 then (if (f_X8_fewestToKeep N (τ 3 1) (x1 - (f_X1_strandedOfAll N 3 τ)) τ) < (0 : Int32) then (g_X8_found ((-1000004)) τ) else τ) else (lg_X8_keepIn_39 N n x1 x2 (x4 + 1) (tw_sr (g_X6_sailOn N 45 2 x2 (g_X6_take 45 (3 + 2 + x4.toNatClampNeg) τ)) 47 (upd ((g_X6_sailOn N 45 2 x2 (g_X6_take 45 (3 + 2 + x4.toNatClampNeg) τ)) 47) x4.toNatClampNeg (((g_X6_sailOn N 45 2 x2 (g_X6_take 45 (3 + 2 + x4.toNatClampNeg) τ)) 45 5) - ((g_X6_sailOn N 45 2 x2 (g_X6_take 45 (3 + 2 + x4.toNatClampNeg) τ)) (3 + 2 + x4.toNatClampNeg) 5)))))
def lo_X8_keepIn_39 (N : Nat)  : Nat → Int32 → Int32 → Int32 → tw_T → Prop
  | 0, _, _, _, _ => False
  | n + 1, x1, x2, x4, τ => if (τ 3 1) ≤ x4 then (p_X1_strandedOfAll N 3 τ ∧ (p_X8_fewestToKeep N (τ 3 1) (x1 - (f_X1_strandedOfAll N 3 τ)) τ ∧ True)) else (vp_in x4 8 ∧ (p_X6_sailOn N 45 2 x2 (g_X6_take 45 (3 + 2 + x4.toNatClampNeg) τ) ∧ (vp_in x4 8 ∧ (vp_in x4 8 ∧ (lo_X8_keepIn_39 N n x1 x2 (x4 + 1) (tw_sr (g_X6_sailOn N 45 2 x2 (g_X6_take 45 (3 + 2 + x4.toNatClampNeg) τ)) 47 (upd ((g_X6_sailOn N 45 2 x2 (g_X6_take 45 (3 + 2 + x4.toNatClampNeg) τ)) 47) x4.toNatClampNeg (((g_X6_sailOn N 45 2 x2 (g_X6_take 45 (3 + 2 + x4.toNatClampNeg) τ)) 45 5) - ((g_X6_sailOn N 45 2 x2 (g_X6_take 45 (3 + 2 + x4.toNatClampNeg) τ)) (3 + 2 + x4.toNatClampNeg) 5)))))))))
def f_X8_keepIn (N : Nat)  (x1 : Int32) (x2 : Int32) (τ : tw_T) : Int32 := if (f_X8_within x1 0 9999 τ) = (0 : Int32) then ((-1000001)) else (if (f_X8_within x2 0 20 τ) = (0 : Int32) then ((-1000001)) else (lf_X8_keepIn_39 N N x1 x2 0 τ))
def g_X8_keepIn (N : Nat)  (x1 : Int32) (x2 : Int32) (τ : tw_T) : tw_T := if (f_X8_within x1 0 9999 τ) = (0 : Int32) then (g_X8_found ((-1000001)) τ) else (if (f_X8_within x2 0 20 τ) = (0 : Int32) then (g_X8_found ((-1000001)) τ) else (lg_X8_keepIn_39 N N x1 x2 0 τ))
def p_X8_keepIn (N : Nat)  (x1 : Int32) (x2 : Int32) (τ : tw_T) : Prop := if (f_X8_within x1 0 9999 τ) = (0 : Int32) then True else (if (f_X8_within x2 0 20 τ) = (0 : Int32) then True else (lo_X8_keepIn_39 N N x1 x2 0 τ))
theorem lp_X8_keepIn_39 {K : tw_K} {Q : Option Value → tw_T → Prop} (F : tw_F K mX8_keepIn 5 Q)   (N : Nat)  : ∀ (n : Nat) (x1 : Int32) (x2 : Int32) (x4 : Int32) (τ : tw_T), lo_X8_keepIn_39 N n x1 x2 x4 τ → Q (some (.int (lf_X8_keepIn_39 N n x1 x2 x4 τ))) (lg_X8_keepIn_39 N n x1 x2 x4 τ) → tw_R K 39 [.ref 0, .int x1, .int x2, .ref 3, .int x4] [] τ := by
  intro n
  induction n with
  | zero => intro x1 x2 x4 τ hp _; exact False.elim hp
  | succ n ih =>
    intro x1 x2 x4 τ hp hq
    simp only [lo_X8_keepIn_39] at hp
    simp only [lf_X8_keepIn_39, lg_X8_keepIn_39] at hq
    refine rw_iload F dc_X8_keepIn_39 rfl ?_
    refine rw_aload_n F dc_X8_keepIn_41 rfl ?_
    refine rw_getI F dc_X8_keepIn_42 fl_RX8_115 (by first | rfl | assumption | decide | exact r73_k (by assumption) | exact fb_k (by assumption) | exact sb_k (by assumption) | exact tb_k (by assumption) | exact sb_li (by assumption) | exact sb_s (by assumption) | exact tb_n (by assumption) | exact fb_k (sb_f (by assumption))) (by first | rfl | assumption | exact lk6 (by assumption) _ | exact lk2 (by assumption) _ | exact fb_l0 (by assumption) | exact fb_l1 (by assumption) | exact sb_l0 (by assumption) | exact sb_l1 (by assumption) | exact sb_l2 (by assumption) | exact sb_l3 (by assumption) | exact tb_l0 (by assumption) | exact tb_l1 (by assumption) | exact tb_l2 (by assumption) | exact lk2 (sb_li (by assumption)) _ | exact fb_l0 (sb_f (by assumption)) | exact fb_l1 (sb_f (by assumption))) ?_
    refine rw_icmp_ge (tgt := 108) F dc_X8_keepIn_45 rfl (fun c1 => ?_) (fun c1 => ?_)
    · rw [if_pos c1] at hp
      refine rw_aload_n F dc_X8_keepIn_108 rfl ?_
      refine rw_aload_n F dc_X8_keepIn_109 rfl ?_
      refine rw_getI F dc_X8_keepIn_110 fl_RX8_115 (by first | rfl | assumption | decide | exact r73_k (by assumption) | exact fb_k (by assumption) | exact sb_k (by assumption) | exact tb_k (by assumption) | exact sb_li (by assumption) | exact sb_s (by assumption) | exact tb_n (by assumption) | exact fb_k (sb_f (by assumption))) (by first | rfl | assumption | exact lk6 (by assumption) _ | exact lk2 (by assumption) _ | exact fb_l0 (by assumption) | exact fb_l1 (by assumption) | exact sb_l0 (by assumption) | exact sb_l1 (by assumption) | exact sb_l2 (by assumption) | exact sb_l3 (by assumption) | exact tb_l0 (by assumption) | exact tb_l1 (by assumption) | exact tb_l2 (by assumption) | exact lk2 (sb_li (by assumption)) _ | exact fb_l0 (sb_f (by assumption)) | exact fb_l1 (sb_f (by assumption))) ?_
      refine rw_iload_n F dc_X8_keepIn_113 rfl ?_
      refine rw_aload_n F dc_X8_keepIn_114 rfl ?_
      obtain ⟨hs2, hp⟩ := hp
      refine rw_cVi F [] dc_X8_keepIn_115 mv_X1_strandedOfAll ml_RX8_151 (by decide) (rc_1 (by first | rfl | assumption | decide | exact r73_k (by assumption) | exact fb_k (by assumption) | exact sb_k (by assumption) | exact tb_k (by assumption) | exact sb_li (by assumption) | exact sb_s (by assumption) | exact tb_n (by assumption) | exact fb_k (sb_f (by assumption)))) rfl rfl (Nat.le_of_ble_eq_true rfl) (cr_X1_strandedOfAll hs2) ?_
      refine rw_isub F dc_X8_keepIn_118 ?_
      obtain ⟨hs3, hp⟩ := hp
      refine rw_cVi F [_, _] dc_X8_keepIn_119 mv_X8_fewestToKeep ml_RX8_225 (by decide) (rc_8 (by first | rfl | assumption | decide | exact r73_k (by assumption) | exact fb_k (by assumption) | exact sb_k (by assumption) | exact tb_k (by assumption) | exact sb_li (by assumption) | exact sb_s (by assumption) | exact tb_n (by assumption) | exact fb_k (sb_f (by assumption)))) rfl rfl (Nat.le_of_ble_eq_true rfl) (cr_X8_fewestToKeep hs3) ?_
      refine rw_istore F dc_X8_keepIn_122 (by decide) rfl ?_
      refine rw_iload F dc_X8_keepIn_124 rfl ?_
      refine rw_if_lt (tgt := 134) F dc_X8_keepIn_126 rfl (fun c4 => ?_) (fun c4 => ?_)
      · refine rw_aload_n F dc_X8_keepIn_134 rfl ?_
        refine rw_ldc F dc_X8_keepIn_135 kc_RX8_196 ?_
        refine rw_cVi F [_] dc_X8_keepIn_137 mv_X8_found ml_RX8_83 (by decide) (rc_8 (by first | rfl | assumption | decide | exact r73_k (by assumption) | exact fb_k (by assumption) | exact sb_k (by assumption) | exact tb_k (by assumption) | exact sb_li (by assumption) | exact sb_s (by assumption) | exact tb_n (by assumption) | exact fb_k (sb_f (by assumption)))) rfl rfl (Nat.le_of_ble_eq_true rfl) cn_X8_found ?_
        refine rw_iret F dc_X8_keepIn_140 rfl rfl ?_
        exact (by simpa only [if_pos c1, if_pos c4] using hq)
      · refine rw_iload F dc_X8_keepIn_129 rfl ?_
        refine rw_goto (tgt := 140) F dc_X8_keepIn_131 rfl ?_
        refine rw_iret F dc_X8_keepIn_140 rfl rfl ?_
        exact (by simpa only [if_pos c1, if_neg c4] using hq)
    · rw [if_neg c1] at hp
      refine rw_aload_n F dc_X8_keepIn_48 rfl ?_
      refine rw_getR F dc_X8_keepIn_49 fl_RX8_53 (by first | rfl | assumption | decide | exact r73_k (by assumption) | exact fb_k (by assumption) | exact sb_k (by assumption) | exact tb_k (by assumption) | exact sb_li (by assumption) | exact sb_s (by assumption) | exact tb_n (by assumption) | exact fb_k (sb_f (by assumption))) (by first | rfl | assumption | exact lk6 (by assumption) _ | exact lk2 (by assumption) _ | exact fb_l0 (by assumption) | exact fb_l1 (by assumption) | exact sb_l0 (by assumption) | exact sb_l1 (by assumption) | exact sb_l2 (by assumption) | exact sb_l3 (by assumption) | exact tb_l0 (by assumption) | exact tb_l1 (by assumption) | exact tb_l2 (by assumption) | exact lk2 (sb_li (by assumption)) _ | exact fb_l0 (sb_f (by assumption)) | exact fb_l1 (sb_f (by assumption))) ?_
      refine rw_aload_n F dc_X8_keepIn_52 rfl ?_
      refine rw_getR F dc_X8_keepIn_53 fl_RX8_123 (by first | rfl | assumption | decide | exact r73_k (by assumption) | exact fb_k (by assumption) | exact sb_k (by assumption) | exact tb_k (by assumption) | exact sb_li (by assumption) | exact sb_s (by assumption) | exact tb_n (by assumption) | exact fb_k (sb_f (by assumption))) (by first | rfl | assumption | exact lk6 (by assumption) _ | exact lk2 (by assumption) _ | exact fb_l0 (by assumption) | exact fb_l1 (by assumption) | exact sb_l0 (by assumption) | exact sb_l1 (by assumption) | exact sb_l2 (by assumption) | exact sb_l3 (by assumption) | exact tb_l0 (by assumption) | exact tb_l1 (by assumption) | exact tb_l2 (by assumption) | exact lk2 (sb_li (by assumption)) _ | exact fb_l0 (sb_f (by assumption)) | exact fb_l1 (sb_f (by assumption))) ?_
      refine rw_iload F dc_X8_keepIn_56 rfl ?_
      obtain ⟨hs5, hp⟩ := hp
      refine rw_aaShip F dc_X8_keepIn_58 (by first | assumption | exact (show _ ∈ tw_fbL by decide) | exact sb_f (by assumption)) hs5 (fun hk6 => ?_)
      refine rw_cVv F [_] dc_X8_keepIn_59 mv_X6_take ml_RX8_175 (by decide) (rc_6 (by first | rfl | assumption | decide | exact r73_k (by assumption) | exact fb_k (by assumption) | exact sb_k (by assumption) | exact tb_k (by assumption) | exact sb_li (by assumption) | exact sb_s (by assumption) | exact tb_n (by assumption) | exact fb_k (sb_f (by assumption)))) rfl rfl (Nat.le_of_ble_eq_true rfl) ct_X6_take ?_
      refine rw_aload_n F dc_X8_keepIn_62 rfl ?_
      refine rw_getR F dc_X8_keepIn_63 fl_RX8_53 (by first | rfl | assumption | decide | exact r73_k (by assumption) | exact fb_k (by assumption) | exact sb_k (by assumption) | exact tb_k (by assumption) | exact sb_li (by assumption) | exact sb_s (by assumption) | exact tb_n (by assumption) | exact fb_k (sb_f (by assumption))) (by first | rfl | assumption | exact lk6 (by assumption) _ | exact lk2 (by assumption) _ | exact fb_l0 (by assumption) | exact fb_l1 (by assumption) | exact sb_l0 (by assumption) | exact sb_l1 (by assumption) | exact sb_l2 (by assumption) | exact sb_l3 (by assumption) | exact tb_l0 (by assumption) | exact tb_l1 (by assumption) | exact tb_l2 (by assumption) | exact lk2 (sb_li (by assumption)) _ | exact fb_l0 (sb_f (by assumption)) | exact fb_l1 (sb_f (by assumption))) ?_
      refine rw_aload_n F dc_X8_keepIn_66 rfl ?_
      refine rw_getR F dc_X8_keepIn_67 fl_RX8_12 (by first | rfl | assumption | decide | exact r73_k (by assumption) | exact fb_k (by assumption) | exact sb_k (by assumption) | exact tb_k (by assumption) | exact sb_li (by assumption) | exact sb_s (by assumption) | exact tb_n (by assumption) | exact fb_k (sb_f (by assumption))) (by first | rfl | assumption | exact lk6 (by assumption) _ | exact lk2 (by assumption) _ | exact fb_l0 (by assumption) | exact fb_l1 (by assumption) | exact sb_l0 (by assumption) | exact sb_l1 (by assumption) | exact sb_l2 (by assumption) | exact sb_l3 (by assumption) | exact tb_l0 (by assumption) | exact tb_l1 (by assumption) | exact tb_l2 (by assumption) | exact lk2 (sb_li (by assumption)) _ | exact fb_l0 (sb_f (by assumption)) | exact fb_l1 (sb_f (by assumption))) ?_
      refine rw_getR F dc_X8_keepIn_70 fl_RX8_87 (by first | rfl | assumption | decide | exact r73_k (by assumption) | exact fb_k (by assumption) | exact sb_k (by assumption) | exact tb_k (by assumption) | exact sb_li (by assumption) | exact sb_s (by assumption) | exact tb_n (by assumption) | exact fb_k (sb_f (by assumption))) (by first | rfl | assumption | exact lk6 (by assumption) _ | exact lk2 (by assumption) _ | exact fb_l0 (by assumption) | exact fb_l1 (by assumption) | exact sb_l0 (by assumption) | exact sb_l1 (by assumption) | exact sb_l2 (by assumption) | exact sb_l3 (by assumption) | exact tb_l0 (by assumption) | exact tb_l1 (by assumption) | exact tb_l2 (by assumption) | exact lk2 (sb_li (by assumption)) _ | exact fb_l0 (sb_f (by assumption)) | exact fb_l1 (sb_f (by assumption))) ?_
      refine rw_iload_n F dc_X8_keepIn_73 rfl ?_
      obtain ⟨hs7, hp⟩ := hp
      refine rw_cVv F [_, _] dc_X8_keepIn_74 mv_X6_sailOn ml_RX8_179 (by decide) (rc_6 (by first | rfl | assumption | decide | exact r73_k (by assumption) | exact fb_k (by assumption) | exact sb_k (by assumption) | exact tb_k (by assumption) | exact sb_li (by assumption) | exact sb_s (by assumption) | exact tb_n (by assumption) | exact fb_k (sb_f (by assumption)))) rfl rfl (Nat.le_of_ble_eq_true rfl) (cr_X6_sailOn hs7) ?_
      refine rw_aload_n F dc_X8_keepIn_77 rfl ?_
      refine rw_getR F dc_X8_keepIn_78 fl_RX8_60 (by first | rfl | assumption | decide | exact r73_k (by assumption) | exact fb_k (by assumption) | exact sb_k (by assumption) | exact tb_k (by assumption) | exact sb_li (by assumption) | exact sb_s (by assumption) | exact tb_n (by assumption) | exact fb_k (sb_f (by assumption))) (by first | rfl | assumption | exact lk6 (by assumption) _ | exact lk2 (by assumption) _ | exact fb_l0 (by assumption) | exact fb_l1 (by assumption) | exact sb_l0 (by assumption) | exact sb_l1 (by assumption) | exact sb_l2 (by assumption) | exact sb_l3 (by assumption) | exact tb_l0 (by assumption) | exact tb_l1 (by assumption) | exact tb_l2 (by assumption) | exact lk2 (sb_li (by assumption)) _ | exact fb_l0 (sb_f (by assumption)) | exact fb_l1 (sb_f (by assumption))) ?_
      refine rw_iload F dc_X8_keepIn_81 rfl ?_
      refine rw_aload_n F dc_X8_keepIn_83 rfl ?_
      refine rw_getR F dc_X8_keepIn_84 fl_RX8_53 (by first | rfl | assumption | decide | exact r73_k (by assumption) | exact fb_k (by assumption) | exact sb_k (by assumption) | exact tb_k (by assumption) | exact sb_li (by assumption) | exact sb_s (by assumption) | exact tb_n (by assumption) | exact fb_k (sb_f (by assumption))) (by first | rfl | assumption | exact lk6 (by assumption) _ | exact lk2 (by assumption) _ | exact fb_l0 (by assumption) | exact fb_l1 (by assumption) | exact sb_l0 (by assumption) | exact sb_l1 (by assumption) | exact sb_l2 (by assumption) | exact sb_l3 (by assumption) | exact tb_l0 (by assumption) | exact tb_l1 (by assumption) | exact tb_l2 (by assumption) | exact lk2 (sb_li (by assumption)) _ | exact fb_l0 (sb_f (by assumption)) | exact fb_l1 (sb_f (by assumption))) ?_
      refine rw_getI F dc_X8_keepIn_87 fl_RX8_189 (by first | rfl | assumption | decide | exact r73_k (by assumption) | exact fb_k (by assumption) | exact sb_k (by assumption) | exact tb_k (by assumption) | exact sb_li (by assumption) | exact sb_s (by assumption) | exact tb_n (by assumption) | exact fb_k (sb_f (by assumption))) (by first | rfl | assumption | exact lk6 (by assumption) _ | exact lk2 (by assumption) _ | exact fb_l0 (by assumption) | exact fb_l1 (by assumption) | exact sb_l0 (by assumption) | exact sb_l1 (by assumption) | exact sb_l2 (by assumption) | exact sb_l3 (by assumption) | exact tb_l0 (by assumption) | exact tb_l1 (by assumption) | exact tb_l2 (by assumption) | exact lk2 (sb_li (by assumption)) _ | exact fb_l0 (sb_f (by assumption)) | exact fb_l1 (sb_f (by assumption))) ?_
      refine rw_aload_n F dc_X8_keepIn_90 rfl ?_
      refine rw_getR F dc_X8_keepIn_91 fl_RX8_123 (by first | rfl | assumption | decide | exact r73_k (by assumption) | exact fb_k (by assumption) | exact sb_k (by assumption) | exact tb_k (by assumption) | exact sb_li (by assumption) | exact sb_s (by assumption) | exact tb_n (by assumption) | exact fb_k (sb_f (by assumption))) (by first | rfl | assumption | exact lk6 (by assumption) _ | exact lk2 (by assumption) _ | exact fb_l0 (by assumption) | exact fb_l1 (by assumption) | exact sb_l0 (by assumption) | exact sb_l1 (by assumption) | exact sb_l2 (by assumption) | exact sb_l3 (by assumption) | exact tb_l0 (by assumption) | exact tb_l1 (by assumption) | exact tb_l2 (by assumption) | exact lk2 (sb_li (by assumption)) _ | exact fb_l0 (sb_f (by assumption)) | exact fb_l1 (sb_f (by assumption))) ?_
      refine rw_iload F dc_X8_keepIn_94 rfl ?_
      obtain ⟨hs8, hp⟩ := hp
      refine rw_aaShip F dc_X8_keepIn_96 (by first | assumption | exact (show _ ∈ tw_fbL by decide) | exact sb_f (by assumption)) hs8 (fun hk9 => ?_)
      refine rw_getI F dc_X8_keepIn_97 fl_RX8_189 (by first | rfl | assumption | decide | exact r73_k (by assumption) | exact fb_k (by assumption) | exact sb_k (by assumption) | exact tb_k (by assumption) | exact sb_li (by assumption) | exact sb_s (by assumption) | exact tb_n (by assumption) | exact fb_k (sb_f (by assumption))) (by first | rfl | assumption | exact lk6 (by assumption) _ | exact lk2 (by assumption) _ | exact fb_l0 (by assumption) | exact fb_l1 (by assumption) | exact sb_l0 (by assumption) | exact sb_l1 (by assumption) | exact sb_l2 (by assumption) | exact sb_l3 (by assumption) | exact tb_l0 (by assumption) | exact tb_l1 (by assumption) | exact tb_l2 (by assumption) | exact lk2 (sb_li (by assumption)) _ | exact fb_l0 (sb_f (by assumption)) | exact fb_l1 (sb_f (by assumption))) ?_
      refine rw_isub F dc_X8_keepIn_100 ?_
      obtain ⟨hs10, hp⟩ := hp
      refine rw_isC F dc_X8_keepIn_101 (by first | rfl | assumption | decide | exact r73_k (by assumption) | exact fb_k (by assumption) | exact sb_k (by assumption) | exact tb_k (by assumption) | exact sb_li (by assumption) | exact sb_s (by assumption) | exact tb_n (by assumption) | exact fb_k (sb_f (by assumption))) (by first | rfl | exact r73_n (by assumption) | exact sb_sn (by assumption) | exact tb_nn (by assumption)) hs10 ?_
      refine rw_inc (n1 := 1) F dc_X8_keepIn_102 rfl rfl (by decide) rfl ?_
      refine rw_goto (tgt := 39) F dc_X8_keepIn_105 rfl ?_
      exact ih _ _ _ _ hp (by simpa only [if_neg c1] using hq)
theorem cr_X8_keepIn {E : tw_E}  {N : Nat}  {x1 : Int32} {x2 : Int32} {τ : tw_T} (hp : p_X8_keepIn N x1 x2 τ)  : tw_Ci E 5 mX8_keepIn [.ref 0, .int x1, .int x2] τ (f_X8_keepIn N x1 x2 τ) (g_X8_keepIn N x1 x2 τ) := by
  unfold p_X8_keepIn at hp
  refine ct_of (by decide) (by simp [Value.category]) (Nat.le_of_ble_eq_true rfl) (fun K hE F => ?_)
  subst hE
  refine rw_iload_n F dc_X8_keepIn_0 rfl ?_
  refine rw_iconst (v := 0) F dc_X8_keepIn_1 rfl ?_
  refine rw_sipush (v := 9999) F dc_X8_keepIn_2 rfl ?_
  refine rw_cSi F [_, _, _] dc_X8_keepIn_5 ms_X8_within ml_RX8_97 (by decide)  rfl rfl (Nat.le_of_ble_eq_true rfl) ct_X8_within ?_
  refine rw_if_eq (tgt := 21) F dc_X8_keepIn_8 rfl (fun c1 => ?_) (fun c1 => ?_)
  · rw [if_pos c1] at hp
    refine rw_aload_n F dc_X8_keepIn_21 rfl ?_
    refine rw_ldc F dc_X8_keepIn_22 kc_RX8_82 ?_
    refine rw_cVi F [_] dc_X8_keepIn_24 mv_X8_found ml_RX8_83 (by decide) (rc_8 (by first | rfl | assumption | decide | exact r73_k (by assumption) | exact fb_k (by assumption) | exact sb_k (by assumption) | exact tb_k (by assumption) | exact sb_li (by assumption) | exact sb_s (by assumption) | exact tb_n (by assumption) | exact fb_k (sb_f (by assumption)))) rfl rfl (Nat.le_of_ble_eq_true rfl) cn_X8_found ?_
    refine rw_iret F dc_X8_keepIn_27 rfl rfl ?_
    exact ⟨by first | (simp only [f_X8_keepIn, g_X8_keepIn, if_pos c1]; done) | rfl | (simp only [f_X8_keepIn, g_X8_keepIn, if_pos c1]; rfl), by first | (simp only [f_X8_keepIn, g_X8_keepIn, if_pos c1]; done) | rfl | (simp only [f_X8_keepIn, g_X8_keepIn, if_pos c1]; rfl)⟩
  · rw [if_neg c1] at hp
    refine rw_iload_n F dc_X8_keepIn_11 rfl ?_
    refine rw_iconst (v := 0) F dc_X8_keepIn_12 rfl ?_
    refine rw_bipush (v := 20) F dc_X8_keepIn_13 rfl ?_
    refine rw_cSi F [_, _, _] dc_X8_keepIn_15 ms_X8_within ml_RX8_97 (by decide)  rfl rfl (Nat.le_of_ble_eq_true rfl) ct_X8_within ?_
    refine rw_if_ne (tgt := 28) F dc_X8_keepIn_18 rfl (fun c2 => ?_) (fun c2 => ?_)
    · rw [if_neg c2] at hp
      refine rw_aload_n F dc_X8_keepIn_28 rfl ?_
      refine rw_getR F dc_X8_keepIn_29 fl_RX8_12 (by first | rfl | assumption | decide | exact r73_k (by assumption) | exact fb_k (by assumption) | exact sb_k (by assumption) | exact tb_k (by assumption) | exact sb_li (by assumption) | exact sb_s (by assumption) | exact tb_n (by assumption) | exact fb_k (sb_f (by assumption))) (by first | rfl | assumption | exact lk6 (by assumption) _ | exact lk2 (by assumption) _ | exact fb_l0 (by assumption) | exact fb_l1 (by assumption) | exact sb_l0 (by assumption) | exact sb_l1 (by assumption) | exact sb_l2 (by assumption) | exact sb_l3 (by assumption) | exact tb_l0 (by assumption) | exact tb_l1 (by assumption) | exact tb_l2 (by assumption) | exact lk2 (sb_li (by assumption)) _ | exact fb_l0 (sb_f (by assumption)) | exact fb_l1 (sb_f (by assumption))) ?_
      refine rw_getR F dc_X8_keepIn_32 fl_RX8_101 (by first | rfl | assumption | decide | exact r73_k (by assumption) | exact fb_k (by assumption) | exact sb_k (by assumption) | exact tb_k (by assumption) | exact sb_li (by assumption) | exact sb_s (by assumption) | exact tb_n (by assumption) | exact fb_k (sb_f (by assumption))) (by first | rfl | assumption | exact lk6 (by assumption) _ | exact lk2 (by assumption) _ | exact fb_l0 (by assumption) | exact fb_l1 (by assumption) | exact sb_l0 (by assumption) | exact sb_l1 (by assumption) | exact sb_l2 (by assumption) | exact sb_l3 (by assumption) | exact tb_l0 (by assumption) | exact tb_l1 (by assumption) | exact tb_l2 (by assumption) | exact lk2 (sb_li (by assumption)) _ | exact fb_l0 (sb_f (by assumption)) | exact fb_l1 (sb_f (by assumption))) ?_
      refine rw_astore_n F dc_X8_keepIn_35 (by decide) rfl ?_
      refine rw_iconst (v := 0) F dc_X8_keepIn_36 rfl ?_
      refine rw_istore F dc_X8_keepIn_37 (by decide) rfl ?_
      exact lp_X8_keepIn_39 F  N N _ _ _ _ hp ⟨by first | (simp only [f_X8_keepIn, g_X8_keepIn, if_neg c1, if_neg c2]; done) | rfl | (simp only [f_X8_keepIn, g_X8_keepIn, if_neg c1, if_neg c2]; rfl), by first | (simp only [f_X8_keepIn, g_X8_keepIn, if_neg c1, if_neg c2]; done) | rfl | (simp only [f_X8_keepIn, g_X8_keepIn, if_neg c1, if_neg c2]; rfl)⟩
    · rw [if_pos c2] at hp
      refine rw_aload_n F dc_X8_keepIn_21 rfl ?_
      refine rw_ldc F dc_X8_keepIn_22 kc_RX8_82 ?_
      refine rw_cVi F [_] dc_X8_keepIn_24 mv_X8_found ml_RX8_83 (by decide) (rc_8 (by first | rfl | assumption | decide | exact r73_k (by assumption) | exact fb_k (by assumption) | exact sb_k (by assumption) | exact tb_k (by assumption) | exact sb_li (by assumption) | exact sb_s (by assumption) | exact tb_n (by assumption) | exact fb_k (sb_f (by assumption)))) rfl rfl (Nat.le_of_ble_eq_true rfl) cn_X8_found ?_
      refine rw_iret F dc_X8_keepIn_27 rfl rfl ?_
      exact ⟨by first | (simp only [f_X8_keepIn, g_X8_keepIn, if_neg c1, if_pos c2]; done) | rfl | (simp only [f_X8_keepIn, g_X8_keepIn, if_neg c1, if_pos c2]; rfl), by first | (simp only [f_X8_keepIn, g_X8_keepIn, if_neg c1, if_pos c2]; done) | rfl | (simp only [f_X8_keepIn, g_X8_keepIn, if_neg c1, if_pos c2]; rfl)⟩
def f_X8_strandedWith (N : Nat)  (x1 : Int32) (x2 : Int32) (x3 : Int32) (x4 : Int32) (τ : tw_T) : Int32 := (g_X6_sailOn N 45 2 x4 (g_X6_become 45 x2 x3 (g_X6_take 45 (3 + 2 + x1.toNatClampNeg) τ))) 45 5
def g_X8_strandedWith (N : Nat)  (x1 : Int32) (x2 : Int32) (x3 : Int32) (x4 : Int32) (τ : tw_T) : tw_T := g_X6_sailOn N 45 2 x4 (g_X6_become 45 x2 x3 (g_X6_take 45 (3 + 2 + x1.toNatClampNeg) τ))
def p_X8_strandedWith (N : Nat)  (x1 : Int32) (x2 : Int32) (x3 : Int32) (x4 : Int32) (τ : tw_T) : Prop := vp_in x1 8 ∧ (p_X6_sailOn N 45 2 x4 (g_X6_become 45 x2 x3 (g_X6_take 45 (3 + 2 + x1.toNatClampNeg) τ)) ∧ True)
theorem ct_X8_strandedWith {E : tw_E}  {N : Nat}  {x1 : Int32} {x2 : Int32} {x3 : Int32} {x4 : Int32} {τ : tw_T} (hp : p_X8_strandedWith N x1 x2 x3 x4 τ)  : tw_Ci E 5 mX8_strandedWith [.ref 0, .int x1, .int x2, .int x3, .int x4] τ (f_X8_strandedWith N x1 x2 x3 x4 τ) (g_X8_strandedWith N x1 x2 x3 x4 τ) := by
  unfold p_X8_strandedWith at hp
  refine ct_of (by decide) (by simp [Value.category]) (Nat.le_of_ble_eq_true rfl) (fun K hE F => ?_)
  subst hE
  refine rw_aload_n F dc_X8_strandedWith_0 rfl ?_
  refine rw_getR F dc_X8_strandedWith_1 fl_RX8_53 (by first | rfl | assumption | decide | exact r73_k (by assumption) | exact fb_k (by assumption) | exact sb_k (by assumption) | exact tb_k (by assumption) | exact sb_li (by assumption) | exact sb_s (by assumption) | exact tb_n (by assumption) | exact fb_k (sb_f (by assumption))) (by first | rfl | assumption | exact lk6 (by assumption) _ | exact lk2 (by assumption) _ | exact fb_l0 (by assumption) | exact fb_l1 (by assumption) | exact sb_l0 (by assumption) | exact sb_l1 (by assumption) | exact sb_l2 (by assumption) | exact sb_l3 (by assumption) | exact tb_l0 (by assumption) | exact tb_l1 (by assumption) | exact tb_l2 (by assumption) | exact lk2 (sb_li (by assumption)) _ | exact fb_l0 (sb_f (by assumption)) | exact fb_l1 (sb_f (by assumption))) ?_
  refine rw_aload_n F dc_X8_strandedWith_4 rfl ?_
  refine rw_getR F dc_X8_strandedWith_5 fl_RX8_12 (by first | rfl | assumption | decide | exact r73_k (by assumption) | exact fb_k (by assumption) | exact sb_k (by assumption) | exact tb_k (by assumption) | exact sb_li (by assumption) | exact sb_s (by assumption) | exact tb_n (by assumption) | exact fb_k (sb_f (by assumption))) (by first | rfl | assumption | exact lk6 (by assumption) _ | exact lk2 (by assumption) _ | exact fb_l0 (by assumption) | exact fb_l1 (by assumption) | exact sb_l0 (by assumption) | exact sb_l1 (by assumption) | exact sb_l2 (by assumption) | exact sb_l3 (by assumption) | exact tb_l0 (by assumption) | exact tb_l1 (by assumption) | exact tb_l2 (by assumption) | exact lk2 (sb_li (by assumption)) _ | exact fb_l0 (sb_f (by assumption)) | exact fb_l1 (sb_f (by assumption))) ?_
  refine rw_getR F dc_X8_strandedWith_8 fl_RX8_101 (by first | rfl | assumption | decide | exact r73_k (by assumption) | exact fb_k (by assumption) | exact sb_k (by assumption) | exact tb_k (by assumption) | exact sb_li (by assumption) | exact sb_s (by assumption) | exact tb_n (by assumption) | exact fb_k (sb_f (by assumption))) (by first | rfl | assumption | exact lk6 (by assumption) _ | exact lk2 (by assumption) _ | exact fb_l0 (by assumption) | exact fb_l1 (by assumption) | exact sb_l0 (by assumption) | exact sb_l1 (by assumption) | exact sb_l2 (by assumption) | exact sb_l3 (by assumption) | exact tb_l0 (by assumption) | exact tb_l1 (by assumption) | exact tb_l2 (by assumption) | exact lk2 (sb_li (by assumption)) _ | exact fb_l0 (sb_f (by assumption)) | exact fb_l1 (sb_f (by assumption))) ?_
  refine rw_getR F dc_X8_strandedWith_11 fl_RX8_123 (by first | rfl | assumption | decide | exact r73_k (by assumption) | exact fb_k (by assumption) | exact sb_k (by assumption) | exact tb_k (by assumption) | exact sb_li (by assumption) | exact sb_s (by assumption) | exact tb_n (by assumption) | exact fb_k (sb_f (by assumption))) (by first | rfl | assumption | exact lk6 (by assumption) _ | exact lk2 (by assumption) _ | exact fb_l0 (by assumption) | exact fb_l1 (by assumption) | exact sb_l0 (by assumption) | exact sb_l1 (by assumption) | exact sb_l2 (by assumption) | exact sb_l3 (by assumption) | exact tb_l0 (by assumption) | exact tb_l1 (by assumption) | exact tb_l2 (by assumption) | exact lk2 (sb_li (by assumption)) _ | exact fb_l0 (sb_f (by assumption)) | exact fb_l1 (sb_f (by assumption))) ?_
  refine rw_iload_n F dc_X8_strandedWith_14 rfl ?_
  obtain ⟨hs1, hp⟩ := hp
  refine rw_aaShip F dc_X8_strandedWith_15 (by first | assumption | exact (show _ ∈ tw_fbL by decide) | exact sb_f (by assumption)) hs1 (fun hk2 => ?_)
  refine rw_cVv F [_] dc_X8_strandedWith_16 mv_X6_take ml_RX8_175 (by decide) (rc_6 (by first | rfl | assumption | decide | exact r73_k (by assumption) | exact fb_k (by assumption) | exact sb_k (by assumption) | exact tb_k (by assumption) | exact sb_li (by assumption) | exact sb_s (by assumption) | exact tb_n (by assumption) | exact fb_k (sb_f (by assumption)))) rfl rfl (Nat.le_of_ble_eq_true rfl) ct_X6_take ?_
  refine rw_aload_n F dc_X8_strandedWith_19 rfl ?_
  refine rw_getR F dc_X8_strandedWith_20 fl_RX8_53 (by first | rfl | assumption | decide | exact r73_k (by assumption) | exact fb_k (by assumption) | exact sb_k (by assumption) | exact tb_k (by assumption) | exact sb_li (by assumption) | exact sb_s (by assumption) | exact tb_n (by assumption) | exact fb_k (sb_f (by assumption))) (by first | rfl | assumption | exact lk6 (by assumption) _ | exact lk2 (by assumption) _ | exact fb_l0 (by assumption) | exact fb_l1 (by assumption) | exact sb_l0 (by assumption) | exact sb_l1 (by assumption) | exact sb_l2 (by assumption) | exact sb_l3 (by assumption) | exact tb_l0 (by assumption) | exact tb_l1 (by assumption) | exact tb_l2 (by assumption) | exact lk2 (sb_li (by assumption)) _ | exact fb_l0 (sb_f (by assumption)) | exact fb_l1 (sb_f (by assumption))) ?_
  refine rw_iload_n F dc_X8_strandedWith_23 rfl ?_
  refine rw_iload_n F dc_X8_strandedWith_24 rfl ?_
  refine rw_cVv F [_, _] dc_X8_strandedWith_25 mv_X6_become ml_RX8_142 (by decide) (rc_6 (by first | rfl | assumption | decide | exact r73_k (by assumption) | exact fb_k (by assumption) | exact sb_k (by assumption) | exact tb_k (by assumption) | exact sb_li (by assumption) | exact sb_s (by assumption) | exact tb_n (by assumption) | exact fb_k (sb_f (by assumption)))) rfl rfl (Nat.le_of_ble_eq_true rfl) ct_X6_become ?_
  refine rw_aload_n F dc_X8_strandedWith_28 rfl ?_
  refine rw_getR F dc_X8_strandedWith_29 fl_RX8_53 (by first | rfl | assumption | decide | exact r73_k (by assumption) | exact fb_k (by assumption) | exact sb_k (by assumption) | exact tb_k (by assumption) | exact sb_li (by assumption) | exact sb_s (by assumption) | exact tb_n (by assumption) | exact fb_k (sb_f (by assumption))) (by first | rfl | assumption | exact lk6 (by assumption) _ | exact lk2 (by assumption) _ | exact fb_l0 (by assumption) | exact fb_l1 (by assumption) | exact sb_l0 (by assumption) | exact sb_l1 (by assumption) | exact sb_l2 (by assumption) | exact sb_l3 (by assumption) | exact tb_l0 (by assumption) | exact tb_l1 (by assumption) | exact tb_l2 (by assumption) | exact lk2 (sb_li (by assumption)) _ | exact fb_l0 (sb_f (by assumption)) | exact fb_l1 (sb_f (by assumption))) ?_
  refine rw_aload_n F dc_X8_strandedWith_32 rfl ?_
  refine rw_getR F dc_X8_strandedWith_33 fl_RX8_12 (by first | rfl | assumption | decide | exact r73_k (by assumption) | exact fb_k (by assumption) | exact sb_k (by assumption) | exact tb_k (by assumption) | exact sb_li (by assumption) | exact sb_s (by assumption) | exact tb_n (by assumption) | exact fb_k (sb_f (by assumption))) (by first | rfl | assumption | exact lk6 (by assumption) _ | exact lk2 (by assumption) _ | exact fb_l0 (by assumption) | exact fb_l1 (by assumption) | exact sb_l0 (by assumption) | exact sb_l1 (by assumption) | exact sb_l2 (by assumption) | exact sb_l3 (by assumption) | exact tb_l0 (by assumption) | exact tb_l1 (by assumption) | exact tb_l2 (by assumption) | exact lk2 (sb_li (by assumption)) _ | exact fb_l0 (sb_f (by assumption)) | exact fb_l1 (sb_f (by assumption))) ?_
  refine rw_getR F dc_X8_strandedWith_36 fl_RX8_87 (by first | rfl | assumption | decide | exact r73_k (by assumption) | exact fb_k (by assumption) | exact sb_k (by assumption) | exact tb_k (by assumption) | exact sb_li (by assumption) | exact sb_s (by assumption) | exact tb_n (by assumption) | exact fb_k (sb_f (by assumption))) (by first | rfl | assumption | exact lk6 (by assumption) _ | exact lk2 (by assumption) _ | exact fb_l0 (by assumption) | exact fb_l1 (by assumption) | exact sb_l0 (by assumption) | exact sb_l1 (by assumption) | exact sb_l2 (by assumption) | exact sb_l3 (by assumption) | exact tb_l0 (by assumption) | exact tb_l1 (by assumption) | exact tb_l2 (by assumption) | exact lk2 (sb_li (by assumption)) _ | exact fb_l0 (sb_f (by assumption)) | exact fb_l1 (sb_f (by assumption))) ?_
  refine rw_iload F dc_X8_strandedWith_39 rfl ?_
  obtain ⟨hs3, hp⟩ := hp
  refine rw_cVv F [_, _] dc_X8_strandedWith_41 mv_X6_sailOn ml_RX8_179 (by decide) (rc_6 (by first | rfl | assumption | decide | exact r73_k (by assumption) | exact fb_k (by assumption) | exact sb_k (by assumption) | exact tb_k (by assumption) | exact sb_li (by assumption) | exact sb_s (by assumption) | exact tb_n (by assumption) | exact fb_k (sb_f (by assumption)))) rfl rfl (Nat.le_of_ble_eq_true rfl) (cr_X6_sailOn hs3) ?_
  refine rw_aload_n F dc_X8_strandedWith_44 rfl ?_
  refine rw_getR F dc_X8_strandedWith_45 fl_RX8_53 (by first | rfl | assumption | decide | exact r73_k (by assumption) | exact fb_k (by assumption) | exact sb_k (by assumption) | exact tb_k (by assumption) | exact sb_li (by assumption) | exact sb_s (by assumption) | exact tb_n (by assumption) | exact fb_k (sb_f (by assumption))) (by first | rfl | assumption | exact lk6 (by assumption) _ | exact lk2 (by assumption) _ | exact fb_l0 (by assumption) | exact fb_l1 (by assumption) | exact sb_l0 (by assumption) | exact sb_l1 (by assumption) | exact sb_l2 (by assumption) | exact sb_l3 (by assumption) | exact tb_l0 (by assumption) | exact tb_l1 (by assumption) | exact tb_l2 (by assumption) | exact lk2 (sb_li (by assumption)) _ | exact fb_l0 (sb_f (by assumption)) | exact fb_l1 (sb_f (by assumption))) ?_
  refine rw_getI F dc_X8_strandedWith_48 fl_RX8_189 (by first | rfl | assumption | decide | exact r73_k (by assumption) | exact fb_k (by assumption) | exact sb_k (by assumption) | exact tb_k (by assumption) | exact sb_li (by assumption) | exact sb_s (by assumption) | exact tb_n (by assumption) | exact fb_k (sb_f (by assumption))) (by first | rfl | assumption | exact lk6 (by assumption) _ | exact lk2 (by assumption) _ | exact fb_l0 (by assumption) | exact fb_l1 (by assumption) | exact sb_l0 (by assumption) | exact sb_l1 (by assumption) | exact sb_l2 (by assumption) | exact sb_l3 (by assumption) | exact tb_l0 (by assumption) | exact tb_l1 (by assumption) | exact tb_l2 (by assumption) | exact lk2 (sb_li (by assumption)) _ | exact fb_l0 (sb_f (by assumption)) | exact fb_l1 (sb_f (by assumption))) ?_
  refine rw_iret F dc_X8_strandedWith_51 rfl rfl ?_
  exact ⟨by first | (simp only [f_X8_strandedWith, g_X8_strandedWith]; done) | rfl | (simp only [f_X8_strandedWith, g_X8_strandedWith]; rfl), by first | (simp only [f_X8_strandedWith, g_X8_strandedWith]; done) | rfl | (simp only [f_X8_strandedWith, g_X8_strandedWith]; rfl)⟩
def lf_X8_secondShowsAs_2 (N : Nat) (t : Nat) (k : Nat) : Nat → Int32 → tw_T → Int32
  | 0, _, _ => 0
  | n + 1, x2, τ => if (τ t 2) ≤ x2 then 1 else (if (τ (t + 1) x2.toNatClampNeg) = ((-1)) then (lf_X8_secondShowsAs_2 N t k n (x2 + 1) τ) else (if (τ (t + 1) x2.toNatClampNeg) = (f_X2_secondAhead k x2 τ) then (lf_X8_secondShowsAs_2 N t k n (x2 + 1) τ) else 0))
def lo_X8_secondShowsAs_2 (N : Nat) (t : Nat) (k : Nat) : Nat → Int32 → tw_T → Prop
  | 0, _, _ => False
  | n + 1, x2, τ => if (τ t 2) ≤ x2 then True else (vp_in x2 40 ∧ (if (τ (t + 1) x2.toNatClampNeg) = ((-1)) then (lo_X8_secondShowsAs_2 N t k n (x2 + 1) τ) else (if (τ (t + 1) x2.toNatClampNeg) = (f_X2_secondAhead k x2 τ) then (lo_X8_secondShowsAs_2 N t k n (x2 + 1) τ) else True)))
def f_X8_secondShowsAs (N : Nat) (t : Nat) (k : Nat)  (τ : tw_T) : Int32 := lf_X8_secondShowsAs_2 N t k N 0 τ
def p_X8_secondShowsAs (N : Nat) (t : Nat) (k : Nat)  (τ : tw_T) : Prop := lo_X8_secondShowsAs_2 N t k N 0 τ
theorem lp_X8_secondShowsAs_2 {K : tw_K} {Q : Option Value → tw_T → Prop} (F : tw_F K mX8_secondShowsAs 5 Q) {t : Nat} {k : Nat} (ht : tw_tb t) (hk : tw_isK k 2 = true) (N : Nat)  : ∀ (n : Nat) (x2 : Int32) (τ : tw_T), lo_X8_secondShowsAs_2 N t k n x2 τ → Q (some (.int (lf_X8_secondShowsAs_2 N t k n x2 τ))) τ → tw_R K 2 [.ref t, .ref k, .int x2, .null] [] τ := by
  intro n
  induction n with
  | zero => intro x2 τ hp _; exact False.elim hp
  | succ n ih =>
    intro x2 τ hp hq
    simp only [lo_X8_secondShowsAs_2] at hp
    simp only [lf_X8_secondShowsAs_2] at hq
    refine rw_iload_n F dc_X8_secondShowsAs_2 rfl ?_
    refine rw_aload_n F dc_X8_secondShowsAs_3 rfl ?_
    refine rw_getI F dc_X8_secondShowsAs_4 fl_RX8_292 (by first | rfl | assumption | decide | exact r73_k (by assumption) | exact fb_k (by assumption) | exact sb_k (by assumption) | exact tb_k (by assumption) | exact sb_li (by assumption) | exact sb_s (by assumption) | exact tb_n (by assumption) | exact fb_k (sb_f (by assumption))) (by first | rfl | assumption | exact lk6 (by assumption) _ | exact lk2 (by assumption) _ | exact fb_l0 (by assumption) | exact fb_l1 (by assumption) | exact sb_l0 (by assumption) | exact sb_l1 (by assumption) | exact sb_l2 (by assumption) | exact sb_l3 (by assumption) | exact tb_l0 (by assumption) | exact tb_l1 (by assumption) | exact tb_l2 (by assumption) | exact lk2 (sb_li (by assumption)) _ | exact fb_l0 (sb_f (by assumption)) | exact fb_l1 (sb_f (by assumption))) ?_
    refine rw_icmp_ge (tgt := 39) F dc_X8_secondShowsAs_7 rfl (fun c1 => ?_) (fun c1 => ?_)
    · rw [if_pos c1] at hp
      refine rw_iconst (v := 1) F dc_X8_secondShowsAs_39 rfl ?_
      refine rw_iret F dc_X8_secondShowsAs_40 rfl rfl ?_
      exact (by simpa only [if_pos c1] using hq)
    · rw [if_neg c1] at hp
      refine rw_aload_n F dc_X8_secondShowsAs_10 rfl ?_
      refine rw_getR F dc_X8_secondShowsAs_11 fl_RX8_305 (by first | rfl | assumption | decide | exact r73_k (by assumption) | exact fb_k (by assumption) | exact sb_k (by assumption) | exact tb_k (by assumption) | exact sb_li (by assumption) | exact sb_s (by assumption) | exact tb_n (by assumption) | exact fb_k (sb_f (by assumption))) (by first | rfl | assumption | exact lk6 (by assumption) _ | exact lk2 (by assumption) _ | exact fb_l0 (by assumption) | exact fb_l1 (by assumption) | exact sb_l0 (by assumption) | exact sb_l1 (by assumption) | exact sb_l2 (by assumption) | exact sb_l3 (by assumption) | exact tb_l0 (by assumption) | exact tb_l1 (by assumption) | exact tb_l2 (by assumption) | exact lk2 (sb_li (by assumption)) _ | exact fb_l0 (sb_f (by assumption)) | exact fb_l1 (sb_f (by assumption))) ?_
      refine rw_iload_n F dc_X8_secondShowsAs_14 rfl ?_
      obtain ⟨hs2, hp⟩ := hp
      refine rw_iaC F dc_X8_secondShowsAs_15 (by first | rfl | assumption | decide | exact r73_k (by assumption) | exact fb_k (by assumption) | exact sb_k (by assumption) | exact tb_k (by assumption) | exact sb_li (by assumption) | exact sb_s (by assumption) | exact tb_n (by assumption) | exact fb_k (sb_f (by assumption))) (by first | rfl | exact r73_n (by assumption) | exact sb_sn (by assumption) | exact tb_nn (by assumption)) hs2 ?_
      refine rw_istore_n F dc_X8_secondShowsAs_16 (by decide) rfl ?_
      refine rw_iload_n F dc_X8_secondShowsAs_17 rfl ?_
      refine rw_iconst (v := (-1)) F dc_X8_secondShowsAs_18 rfl ?_
      refine rw_icmp_eq (tgt := 33) F dc_X8_secondShowsAs_19 rfl (fun c3 => ?_) (fun c3 => ?_)
      · rw [if_pos c3] at hp
        refine rw_inc (n1 := 1) F dc_X8_secondShowsAs_33 rfl rfl (by decide) rfl ?_
        refine rw_goto (tgt := 2) F dc_X8_secondShowsAs_36 rfl ?_
        refine rw_nul 3 ?_
        exact ih _ _ hp (by simpa only [if_neg c1, if_pos c3] using hq)
      · rw [if_neg c3] at hp
        refine rw_iload_n F dc_X8_secondShowsAs_22 rfl ?_
        refine rw_aload_n F dc_X8_secondShowsAs_23 rfl ?_
        refine rw_iload_n F dc_X8_secondShowsAs_24 rfl ?_
        refine rw_cVi F [_] dc_X8_secondShowsAs_25 mv_X2_secondAhead ml_RX8_186 (by decide) (rc_2 (by first | rfl | assumption | decide | exact r73_k (by assumption) | exact fb_k (by assumption) | exact sb_k (by assumption) | exact tb_k (by assumption) | exact sb_li (by assumption) | exact sb_s (by assumption) | exact tb_n (by assumption) | exact fb_k (sb_f (by assumption)))) rfl rfl (Nat.le_of_ble_eq_true rfl) ct_X2_secondAhead ?_
        refine rw_icmp_eq (tgt := 33) F dc_X8_secondShowsAs_28 rfl (fun c4 => ?_) (fun c4 => ?_)
        · rw [if_pos c4] at hp
          refine rw_inc (n1 := 1) F dc_X8_secondShowsAs_33 rfl rfl (by decide) rfl ?_
          refine rw_goto (tgt := 2) F dc_X8_secondShowsAs_36 rfl ?_
          refine rw_nul 3 ?_
          exact ih _ _ hp (by simpa only [if_neg c1, if_neg c3, if_pos c4] using hq)
        · rw [if_neg c4] at hp
          refine rw_iconst (v := 0) F dc_X8_secondShowsAs_31 rfl ?_
          refine rw_iret F dc_X8_secondShowsAs_32 rfl rfl ?_
          exact (by simpa only [if_neg c1, if_neg c3, if_neg c4] using hq)
theorem cr_X8_secondShowsAs {E : tw_E} {t : Nat} {k : Nat} {N : Nat}   {τ : tw_T} (hp : p_X8_secondShowsAs N t k τ) (ht : tw_tb t := by first | assumption | exact (show _ ∈ ([182, 184, 186, 188] : List Nat) by decide)) (hk : tw_isK k 2 = true := by first | rfl | assumption | exact sb_li (by assumption)) : tw_Ci E 5 mX8_secondShowsAs [.ref t, .ref k] τ (f_X8_secondShowsAs N t k τ) (τ) := by
  unfold p_X8_secondShowsAs at hp
  refine ct_of (by decide) (by simp [Value.category]) (Nat.le_of_ble_eq_true rfl) (fun K hE F => ?_)
  subst hE
  refine rw_iconst (v := 0) F dc_X8_secondShowsAs_0 rfl ?_
  refine rw_istore_n F dc_X8_secondShowsAs_1 (by decide) rfl ?_
  exact lp_X8_secondShowsAs_2 F ht hk N N _ _ hp ⟨by first | (simp only [f_X8_secondShowsAs]; done) | rfl | (simp only [f_X8_secondShowsAs]; rfl), by first | (simp only [f_X8_secondShowsAs]; done) | rfl | (simp only [f_X8_secondShowsAs]; rfl)⟩
def lf_X8_sailsAs_2 (N : Nat) (t : Nat) (k : Nat) : Nat → Int32 → tw_T → Int32
  | 0, _, _ => 0
  | n + 1, x3, τ => if (τ t 2) ≤ x3 then 1 else (if (τ (t + 1) x3.toNatClampNeg) = ((-1)) then (lf_X8_sailsAs_2 N t k n (x3 + 1) (g_X8_sailTick k x3 τ)) else (if (τ (t + 1) x3.toNatClampNeg) = (τ k 1) then (lf_X8_sailsAs_2 N t k n (x3 + 1) (g_X8_sailTick k x3 τ)) else 0))
def lg_X8_sailsAs_2 (N : Nat) (t : Nat) (k : Nat) : Nat → Int32 → tw_T → tw_T
  | 0, _, τ => τ
  | n + 1, x3, τ => if (τ t 2) ≤ x3 then τ else (if (τ (t + 1) x3.toNatClampNeg) = ((-1)) then (lg_X8_sailsAs_2 N t k n (x3 + 1) (g_X8_sailTick k x3 τ)) else (if (τ (t + 1) x3.toNatClampNeg) = (τ k 1) then (lg_X8_sailsAs_2 N t k n (x3 + 1) (g_X8_sailTick k x3 τ)) else τ))
def lo_X8_sailsAs_2 (N : Nat) (t : Nat) (k : Nat) : Nat → Int32 → tw_T → Prop
  | 0, _, _ => False
  | n + 1, x3, τ => if (τ t 2) ≤ x3 then True else (vp_in x3 40 ∧ (if (τ (t + 1) x3.toNatClampNeg) = ((-1)) then (lo_X8_sailsAs_2 N t k n (x3 + 1) (g_X8_sailTick k x3 τ)) else (if (τ (t + 1) x3.toNatClampNeg) = (τ k 1) then (lo_X8_sailsAs_2 N t k n (x3 + 1) (g_X8_sailTick k x3 τ)) else True)))
def f_X8_sailsAs (N : Nat) (t : Nat) (k : Nat)  (τ : tw_T) : Int32 := lf_X8_sailsAs_2 N t k N 0 τ
def g_X8_sailsAs (N : Nat) (t : Nat) (k : Nat)  (τ : tw_T) : tw_T := lg_X8_sailsAs_2 N t k N 0 τ
def p_X8_sailsAs (N : Nat) (t : Nat) (k : Nat)  (τ : tw_T) : Prop := lo_X8_sailsAs_2 N t k N 0 τ
theorem lp_X8_sailsAs_2 {K : tw_K} {Q : Option Value → tw_T → Prop} (F : tw_F K mX8_sailsAs 5 Q) {t : Nat} {k : Nat} (ht : tw_tb t) (hk : tw_isK k 6 = true) (N : Nat)  : ∀ (n : Nat) (x3 : Int32) (τ : tw_T), lo_X8_sailsAs_2 N t k n x3 τ → Q (some (.int (lf_X8_sailsAs_2 N t k n x3 τ))) (lg_X8_sailsAs_2 N t k n x3 τ) → tw_R K 2 [.ref 0, .ref t, .ref k, .int x3, .null] [] τ := by
  intro n
  induction n with
  | zero => intro x3 τ hp _; exact False.elim hp
  | succ n ih =>
    intro x3 τ hp hq
    simp only [lo_X8_sailsAs_2] at hp
    simp only [lf_X8_sailsAs_2, lg_X8_sailsAs_2] at hq
    refine rw_iload_n F dc_X8_sailsAs_2 rfl ?_
    refine rw_aload_n F dc_X8_sailsAs_3 rfl ?_
    refine rw_getI F dc_X8_sailsAs_4 fl_RX8_292 (by first | rfl | assumption | decide | exact r73_k (by assumption) | exact fb_k (by assumption) | exact sb_k (by assumption) | exact tb_k (by assumption) | exact sb_li (by assumption) | exact sb_s (by assumption) | exact tb_n (by assumption) | exact fb_k (sb_f (by assumption))) (by first | rfl | assumption | exact lk6 (by assumption) _ | exact lk2 (by assumption) _ | exact fb_l0 (by assumption) | exact fb_l1 (by assumption) | exact sb_l0 (by assumption) | exact sb_l1 (by assumption) | exact sb_l2 (by assumption) | exact sb_l3 (by assumption) | exact tb_l0 (by assumption) | exact tb_l1 (by assumption) | exact tb_l2 (by assumption) | exact lk2 (sb_li (by assumption)) _ | exact fb_l0 (sb_f (by assumption)) | exact fb_l1 (sb_f (by assumption))) ?_
    refine rw_icmp_ge (tgt := 47) F dc_X8_sailsAs_7 rfl (fun c1 => ?_) (fun c1 => ?_)
    · rw [if_pos c1] at hp
      refine rw_iconst (v := 1) F dc_X8_sailsAs_47 rfl ?_
      refine rw_iret F dc_X8_sailsAs_48 rfl rfl ?_
      exact (by simpa only [if_pos c1] using hq)
    · rw [if_neg c1] at hp
      refine rw_aload_n F dc_X8_sailsAs_10 rfl ?_
      refine rw_getR F dc_X8_sailsAs_11 fl_RX8_305 (by first | rfl | assumption | decide | exact r73_k (by assumption) | exact fb_k (by assumption) | exact sb_k (by assumption) | exact tb_k (by assumption) | exact sb_li (by assumption) | exact sb_s (by assumption) | exact tb_n (by assumption) | exact fb_k (sb_f (by assumption))) (by first | rfl | assumption | exact lk6 (by assumption) _ | exact lk2 (by assumption) _ | exact fb_l0 (by assumption) | exact fb_l1 (by assumption) | exact sb_l0 (by assumption) | exact sb_l1 (by assumption) | exact sb_l2 (by assumption) | exact sb_l3 (by assumption) | exact tb_l0 (by assumption) | exact tb_l1 (by assumption) | exact tb_l2 (by assumption) | exact lk2 (sb_li (by assumption)) _ | exact fb_l0 (sb_f (by assumption)) | exact fb_l1 (sb_f (by assumption))) ?_
      refine rw_iload_n F dc_X8_sailsAs_14 rfl ?_
      obtain ⟨hs2, hp⟩ := hp
      refine rw_iaC F dc_X8_sailsAs_15 (by first | rfl | assumption | decide | exact r73_k (by assumption) | exact fb_k (by assumption) | exact sb_k (by assumption) | exact tb_k (by assumption) | exact sb_li (by assumption) | exact sb_s (by assumption) | exact tb_n (by assumption) | exact fb_k (sb_f (by assumption))) (by first | rfl | exact r73_n (by assumption) | exact sb_sn (by assumption) | exact tb_nn (by assumption)) hs2 ?_
      refine rw_istore F dc_X8_sailsAs_16 (by decide) rfl ?_
      refine rw_iload F dc_X8_sailsAs_18 rfl ?_
      refine rw_iconst (v := (-1)) F dc_X8_sailsAs_20 rfl ?_
      refine rw_icmp_eq (tgt := 35) F dc_X8_sailsAs_21 rfl (fun c3 => ?_) (fun c3 => ?_)
      · rw [if_pos c3] at hp
        refine rw_aload_n F dc_X8_sailsAs_35 rfl ?_
        refine rw_aload_n F dc_X8_sailsAs_36 rfl ?_
        refine rw_iload_n F dc_X8_sailsAs_37 rfl ?_
        refine rw_cVv F [_, _] dc_X8_sailsAs_38 mv_X8_sailTick ml_RX8_192 (by decide) (rc_8 (by first | rfl | assumption | decide | exact r73_k (by assumption) | exact fb_k (by assumption) | exact sb_k (by assumption) | exact tb_k (by assumption) | exact sb_li (by assumption) | exact sb_s (by assumption) | exact tb_n (by assumption) | exact fb_k (sb_f (by assumption)))) rfl rfl (Nat.le_of_ble_eq_true rfl) ct_X8_sailTick ?_
        refine rw_inc (n1 := 1) F dc_X8_sailsAs_41 rfl rfl (by decide) rfl ?_
        refine rw_goto (tgt := 2) F dc_X8_sailsAs_44 rfl ?_
        refine rw_nul 4 ?_
        exact ih _ _ hp (by simpa only [if_neg c1, if_pos c3] using hq)
      · rw [if_neg c3] at hp
        refine rw_iload F dc_X8_sailsAs_24 rfl ?_
        refine rw_aload_n F dc_X8_sailsAs_26 rfl ?_
        refine rw_getI F dc_X8_sailsAs_27 fl_RX8_197 (by first | rfl | assumption | decide | exact r73_k (by assumption) | exact fb_k (by assumption) | exact sb_k (by assumption) | exact tb_k (by assumption) | exact sb_li (by assumption) | exact sb_s (by assumption) | exact tb_n (by assumption) | exact fb_k (sb_f (by assumption))) (by first | rfl | assumption | exact lk6 (by assumption) _ | exact lk2 (by assumption) _ | exact fb_l0 (by assumption) | exact fb_l1 (by assumption) | exact sb_l0 (by assumption) | exact sb_l1 (by assumption) | exact sb_l2 (by assumption) | exact sb_l3 (by assumption) | exact tb_l0 (by assumption) | exact tb_l1 (by assumption) | exact tb_l2 (by assumption) | exact lk2 (sb_li (by assumption)) _ | exact fb_l0 (sb_f (by assumption)) | exact fb_l1 (sb_f (by assumption))) ?_
        refine rw_icmp_eq (tgt := 35) F dc_X8_sailsAs_30 rfl (fun c4 => ?_) (fun c4 => ?_)
        · rw [if_pos c4] at hp
          refine rw_aload_n F dc_X8_sailsAs_35 rfl ?_
          refine rw_aload_n F dc_X8_sailsAs_36 rfl ?_
          refine rw_iload_n F dc_X8_sailsAs_37 rfl ?_
          refine rw_cVv F [_, _] dc_X8_sailsAs_38 mv_X8_sailTick ml_RX8_192 (by decide) (rc_8 (by first | rfl | assumption | decide | exact r73_k (by assumption) | exact fb_k (by assumption) | exact sb_k (by assumption) | exact tb_k (by assumption) | exact sb_li (by assumption) | exact sb_s (by assumption) | exact tb_n (by assumption) | exact fb_k (sb_f (by assumption)))) rfl rfl (Nat.le_of_ble_eq_true rfl) ct_X8_sailTick ?_
          refine rw_inc (n1 := 1) F dc_X8_sailsAs_41 rfl rfl (by decide) rfl ?_
          refine rw_goto (tgt := 2) F dc_X8_sailsAs_44 rfl ?_
          refine rw_nul 4 ?_
          exact ih _ _ hp (by simpa only [if_neg c1, if_neg c3, if_pos c4] using hq)
        · rw [if_neg c4] at hp
          refine rw_iconst (v := 0) F dc_X8_sailsAs_33 rfl ?_
          refine rw_iret F dc_X8_sailsAs_34 rfl rfl ?_
          exact (by simpa only [if_neg c1, if_neg c3, if_neg c4] using hq)
theorem cr_X8_sailsAs {E : tw_E} {t : Nat} {k : Nat} {N : Nat}   {τ : tw_T} (hp : p_X8_sailsAs N t k τ) (ht : tw_tb t := by first | assumption | exact (show _ ∈ ([182, 184, 186, 188] : List Nat) by decide)) (hk : tw_isK k 6 = true := by first | rfl | assumption) : tw_Ci E 5 mX8_sailsAs [.ref 0, .ref t, .ref k] τ (f_X8_sailsAs N t k τ) (g_X8_sailsAs N t k τ) := by
  unfold p_X8_sailsAs at hp
  refine ct_of (by decide) (by simp [Value.category]) (Nat.le_of_ble_eq_true rfl) (fun K hE F => ?_)
  subst hE
  refine rw_iconst (v := 0) F dc_X8_sailsAs_0 rfl ?_
  refine rw_istore_n F dc_X8_sailsAs_1 (by decide) rfl ?_
  exact lp_X8_sailsAs_2 F ht hk N N _ _ hp ⟨by first | (simp only [f_X8_sailsAs, g_X8_sailsAs]; done) | rfl | (simp only [f_X8_sailsAs, g_X8_sailsAs]; rfl), by first | (simp only [f_X8_sailsAs, g_X8_sailsAs]; done) | rfl | (simp only [f_X8_sailsAs, g_X8_sailsAs]; rfl)⟩
def f_X8_set  (x1 : Int32) (x2 : Int32) (τ : tw_T) : Int32 := if (f_X2_mayBecome x1 x2 τ) = (0 : Int32) then ((-1000001)) else (f_X2_told 2 x1 τ)
def g_X8_set  (x1 : Int32) (x2 : Int32) (τ : tw_T) : tw_T := if (f_X2_mayBecome x1 x2 τ) = (0 : Int32) then (g_X8_found ((-1000001)) τ) else (g_X2_become 2 x1 x2 τ)
theorem ct_X8_set {E : tw_E}   {x1 : Int32} {x2 : Int32} {τ : tw_T}   : tw_Ci E 6 mX8_set [.ref 0, .int x1, .int x2] τ (f_X8_set x1 x2 τ) (g_X8_set x1 x2 τ) := by
  refine ct_of (by decide) (by simp [Value.category]) (Nat.le_of_ble_eq_true rfl) (fun K hE F => ?_)
  subst hE
  refine rw_iload_n F dc_X8_set_0 rfl ?_
  refine rw_iload_n F dc_X8_set_1 rfl ?_
  refine rw_cSi F [_, _] dc_X8_set_2 ms_X2_mayBecome ml_RX8_78 (by decide)  rfl rfl (Nat.le_of_ble_eq_true rfl) ct_X2_mayBecome ?_
  refine rw_if_ne (tgt := 15) F dc_X8_set_5 rfl (fun c1 => ?_) (fun c1 => ?_)
  · refine rw_aload_n F dc_X8_set_15 rfl ?_
    refine rw_getR F dc_X8_set_16 fl_RX8_12 (by first | rfl | assumption | decide | exact r73_k (by assumption) | exact fb_k (by assumption) | exact sb_k (by assumption) | exact tb_k (by assumption) | exact sb_li (by assumption) | exact sb_s (by assumption) | exact tb_n (by assumption) | exact fb_k (sb_f (by assumption))) (by first | rfl | assumption | exact lk6 (by assumption) _ | exact lk2 (by assumption) _ | exact fb_l0 (by assumption) | exact fb_l1 (by assumption) | exact sb_l0 (by assumption) | exact sb_l1 (by assumption) | exact sb_l2 (by assumption) | exact sb_l3 (by assumption) | exact tb_l0 (by assumption) | exact tb_l1 (by assumption) | exact tb_l2 (by assumption) | exact lk2 (sb_li (by assumption)) _ | exact fb_l0 (sb_f (by assumption)) | exact fb_l1 (sb_f (by assumption))) ?_
    refine rw_getR F dc_X8_set_19 fl_RX8_87 (by first | rfl | assumption | decide | exact r73_k (by assumption) | exact fb_k (by assumption) | exact sb_k (by assumption) | exact tb_k (by assumption) | exact sb_li (by assumption) | exact sb_s (by assumption) | exact tb_n (by assumption) | exact fb_k (sb_f (by assumption))) (by first | rfl | assumption | exact lk6 (by assumption) _ | exact lk2 (by assumption) _ | exact fb_l0 (by assumption) | exact fb_l1 (by assumption) | exact sb_l0 (by assumption) | exact sb_l1 (by assumption) | exact sb_l2 (by assumption) | exact sb_l3 (by assumption) | exact tb_l0 (by assumption) | exact tb_l1 (by assumption) | exact tb_l2 (by assumption) | exact lk2 (sb_li (by assumption)) _ | exact fb_l0 (sb_f (by assumption)) | exact fb_l1 (sb_f (by assumption))) ?_
    refine rw_iload_n F dc_X8_set_22 rfl ?_
    refine rw_cVi F [_] dc_X8_set_23 mv_X2_told ml_RX8_90 (by decide) (rc_2 (by first | rfl | assumption | decide | exact r73_k (by assumption) | exact fb_k (by assumption) | exact sb_k (by assumption) | exact tb_k (by assumption) | exact sb_li (by assumption) | exact sb_s (by assumption) | exact tb_n (by assumption) | exact fb_k (sb_f (by assumption)))) rfl rfl (Nat.le_of_ble_eq_true rfl) ct_X2_told ?_
    refine rw_istore_n F dc_X8_set_26 (by decide) rfl ?_
    refine rw_aload_n F dc_X8_set_27 rfl ?_
    refine rw_getR F dc_X8_set_28 fl_RX8_12 (by first | rfl | assumption | decide | exact r73_k (by assumption) | exact fb_k (by assumption) | exact sb_k (by assumption) | exact tb_k (by assumption) | exact sb_li (by assumption) | exact sb_s (by assumption) | exact tb_n (by assumption) | exact fb_k (sb_f (by assumption))) (by first | rfl | assumption | exact lk6 (by assumption) _ | exact lk2 (by assumption) _ | exact fb_l0 (by assumption) | exact fb_l1 (by assumption) | exact sb_l0 (by assumption) | exact sb_l1 (by assumption) | exact sb_l2 (by assumption) | exact sb_l3 (by assumption) | exact tb_l0 (by assumption) | exact tb_l1 (by assumption) | exact tb_l2 (by assumption) | exact lk2 (sb_li (by assumption)) _ | exact fb_l0 (sb_f (by assumption)) | exact fb_l1 (sb_f (by assumption))) ?_
    refine rw_getR F dc_X8_set_31 fl_RX8_87 (by first | rfl | assumption | decide | exact r73_k (by assumption) | exact fb_k (by assumption) | exact sb_k (by assumption) | exact tb_k (by assumption) | exact sb_li (by assumption) | exact sb_s (by assumption) | exact tb_n (by assumption) | exact fb_k (sb_f (by assumption))) (by first | rfl | assumption | exact lk6 (by assumption) _ | exact lk2 (by assumption) _ | exact fb_l0 (by assumption) | exact fb_l1 (by assumption) | exact sb_l0 (by assumption) | exact sb_l1 (by assumption) | exact sb_l2 (by assumption) | exact sb_l3 (by assumption) | exact tb_l0 (by assumption) | exact tb_l1 (by assumption) | exact tb_l2 (by assumption) | exact lk2 (sb_li (by assumption)) _ | exact fb_l0 (sb_f (by assumption)) | exact fb_l1 (sb_f (by assumption))) ?_
    refine rw_iload_n F dc_X8_set_34 rfl ?_
    refine rw_iload_n F dc_X8_set_35 rfl ?_
    refine rw_cVv F [_, _] dc_X8_set_36 mv_X2_become ml_RX8_93 (by decide) (rc_2 (by first | rfl | assumption | decide | exact r73_k (by assumption) | exact fb_k (by assumption) | exact sb_k (by assumption) | exact tb_k (by assumption) | exact sb_li (by assumption) | exact sb_s (by assumption) | exact tb_n (by assumption) | exact fb_k (sb_f (by assumption)))) rfl rfl (Nat.le_of_ble_eq_true rfl) ct_X2_become ?_
    refine rw_iload_n F dc_X8_set_39 rfl ?_
    refine rw_iret F dc_X8_set_40 rfl rfl ?_
    exact ⟨by first | (simp only [f_X8_set, g_X8_set, if_neg c1]; done) | rfl | (simp only [f_X8_set, g_X8_set, if_neg c1]; rfl), by first | (simp only [f_X8_set, g_X8_set, if_neg c1]; done) | rfl | (simp only [f_X8_set, g_X8_set, if_neg c1]; rfl)⟩
  · refine rw_aload_n F dc_X8_set_8 rfl ?_
    refine rw_ldc F dc_X8_set_9 kc_RX8_82 ?_
    refine rw_cVi F [_] dc_X8_set_11 mv_X8_found ml_RX8_83 (by decide) (rc_8 (by first | rfl | assumption | decide | exact r73_k (by assumption) | exact fb_k (by assumption) | exact sb_k (by assumption) | exact tb_k (by assumption) | exact sb_li (by assumption) | exact sb_s (by assumption) | exact tb_n (by assumption) | exact fb_k (sb_f (by assumption)))) rfl rfl (Nat.le_of_ble_eq_true rfl) cn_X8_found ?_
    refine rw_iret F dc_X8_set_14 rfl rfl ?_
    exact ⟨by first | (simp only [f_X8_set, g_X8_set, if_pos c1]; done) | rfl | (simp only [f_X8_set, g_X8_set, if_pos c1]; rfl), by first | (simp only [f_X8_set, g_X8_set, if_pos c1]; done) | rfl | (simp only [f_X8_set, g_X8_set, if_pos c1]; rfl)⟩
def f_X8_light  (x1 : Int32) (τ : tw_T) : Int32 := if (f_X8_within x1 0 5 τ) = (0 : Int32) then ((-1000001)) else (f_X2_told 2 x1 τ)
def g_X8_light  (x1 : Int32) (τ : tw_T) : tw_T := if (f_X8_within x1 0 5 τ) = (0 : Int32) then (g_X8_found ((-1000001)) τ) else τ
theorem ct_X8_light {E : tw_E}   {x1 : Int32} {τ : tw_T}   : tw_Ci E 6 mX8_light [.ref 0, .int x1] τ (f_X8_light x1 τ) (g_X8_light x1 τ) := by
  refine ct_of (by decide) (by simp [Value.category]) (Nat.le_of_ble_eq_true rfl) (fun K hE F => ?_)
  subst hE
  refine rw_iload_n F dc_X8_light_0 rfl ?_
  refine rw_iconst (v := 0) F dc_X8_light_1 rfl ?_
  refine rw_iconst (v := 5) F dc_X8_light_2 rfl ?_
  refine rw_cSi F [_, _, _] dc_X8_light_3 ms_X8_within ml_RX8_97 (by decide)  rfl rfl (Nat.le_of_ble_eq_true rfl) ct_X8_within ?_
  refine rw_if_eq (tgt := 23) F dc_X8_light_6 rfl (fun c1 => ?_) (fun c1 => ?_)
  · refine rw_aload_n F dc_X8_light_23 rfl ?_
    refine rw_ldc F dc_X8_light_24 kc_RX8_82 ?_
    refine rw_cVi F [_] dc_X8_light_26 mv_X8_found ml_RX8_83 (by decide) (rc_8 (by first | rfl | assumption | decide | exact r73_k (by assumption) | exact fb_k (by assumption) | exact sb_k (by assumption) | exact tb_k (by assumption) | exact sb_li (by assumption) | exact sb_s (by assumption) | exact tb_n (by assumption) | exact fb_k (sb_f (by assumption)))) rfl rfl (Nat.le_of_ble_eq_true rfl) cn_X8_found ?_
    refine rw_iret F dc_X8_light_29 rfl rfl ?_
    exact ⟨by first | (simp only [f_X8_light, g_X8_light, if_pos c1]; done) | rfl | (simp only [f_X8_light, g_X8_light, if_pos c1]; rfl), by first | (simp only [f_X8_light, g_X8_light, if_pos c1]; done) | rfl | (simp only [f_X8_light, g_X8_light, if_pos c1]; rfl)⟩
  · refine rw_aload_n F dc_X8_light_9 rfl ?_
    refine rw_getR F dc_X8_light_10 fl_RX8_12 (by first | rfl | assumption | decide | exact r73_k (by assumption) | exact fb_k (by assumption) | exact sb_k (by assumption) | exact tb_k (by assumption) | exact sb_li (by assumption) | exact sb_s (by assumption) | exact tb_n (by assumption) | exact fb_k (sb_f (by assumption))) (by first | rfl | assumption | exact lk6 (by assumption) _ | exact lk2 (by assumption) _ | exact fb_l0 (by assumption) | exact fb_l1 (by assumption) | exact sb_l0 (by assumption) | exact sb_l1 (by assumption) | exact sb_l2 (by assumption) | exact sb_l3 (by assumption) | exact tb_l0 (by assumption) | exact tb_l1 (by assumption) | exact tb_l2 (by assumption) | exact lk2 (sb_li (by assumption)) _ | exact fb_l0 (sb_f (by assumption)) | exact fb_l1 (sb_f (by assumption))) ?_
    refine rw_getR F dc_X8_light_13 fl_RX8_87 (by first | rfl | assumption | decide | exact r73_k (by assumption) | exact fb_k (by assumption) | exact sb_k (by assumption) | exact tb_k (by assumption) | exact sb_li (by assumption) | exact sb_s (by assumption) | exact tb_n (by assumption) | exact fb_k (sb_f (by assumption))) (by first | rfl | assumption | exact lk6 (by assumption) _ | exact lk2 (by assumption) _ | exact fb_l0 (by assumption) | exact fb_l1 (by assumption) | exact sb_l0 (by assumption) | exact sb_l1 (by assumption) | exact sb_l2 (by assumption) | exact sb_l3 (by assumption) | exact tb_l0 (by assumption) | exact tb_l1 (by assumption) | exact tb_l2 (by assumption) | exact lk2 (sb_li (by assumption)) _ | exact fb_l0 (sb_f (by assumption)) | exact fb_l1 (sb_f (by assumption))) ?_
    refine rw_iload_n F dc_X8_light_16 rfl ?_
    refine rw_cVi F [_] dc_X8_light_17 mv_X2_told ml_RX8_90 (by decide) (rc_2 (by first | rfl | assumption | decide | exact r73_k (by assumption) | exact fb_k (by assumption) | exact sb_k (by assumption) | exact tb_k (by assumption) | exact sb_li (by assumption) | exact sb_s (by assumption) | exact tb_n (by assumption) | exact fb_k (sb_f (by assumption)))) rfl rfl (Nat.le_of_ble_eq_true rfl) ct_X2_told ?_
    refine rw_goto (tgt := 29) F dc_X8_light_20 rfl ?_
    refine rw_iret F dc_X8_light_29 rfl rfl ?_
    exact ⟨by first | (simp only [f_X8_light, g_X8_light, if_neg c1]; done) | rfl | (simp only [f_X8_light, g_X8_light, if_neg c1]; rfl), by first | (simp only [f_X8_light, g_X8_light, if_neg c1]; done) | rfl | (simp only [f_X8_light, g_X8_light, if_neg c1]; rfl)⟩
def lf_X8_go_43 (N : Nat)  : Nat → Int32 → Int32 → tw_T → Int32
  | 0, _, _, _ => 0
  | n + 1, x1, x2, τ => if x1 ≤ x2 then (f_X1_strandedOfAll N 3 τ) else (lf_X8_go_43 N n x1 (x2 + 1) (g_X4_passTick N 1 τ))
def lg_X8_go_43 (N : Nat)  : Nat → Int32 → Int32 → tw_T → tw_T
  | 0, _, _, τ => τ
  | n + 1, x1, x2, τ => if x1 ≤ x2 then τ else (lg_X8_go_43 N n x1 (x2 + 1) (g_X4_passTick N 1 τ))
def lo_X8_go_43 (N : Nat)  : Nat → Int32 → Int32 → tw_T → Prop
  | 0, _, _, _ => False
  | n + 1, x1, x2, τ => if x1 ≤ x2 then (p_X1_strandedOfAll N 3 τ ∧ True) else (p_X4_passTick N 1 τ ∧ (lo_X8_go_43 N n x1 (x2 + 1) (g_X4_passTick N 1 τ)))
def f_X8_go (N : Nat)  (x1 : Int32) (τ : tw_T) : Int32 := if (f_X8_within x1 1 60 τ) = (0 : Int32) then ((-1000001)) else (if ((τ 2 4) + x1) ≤ (99999 : Int32) then (lf_X8_go_43 N N x1 0 τ) else ((-1000005)))
def g_X8_go (N : Nat)  (x1 : Int32) (τ : tw_T) : tw_T := if (f_X8_within x1 1 60 τ) = (0 : Int32) then (g_X8_found ((-1000001)) τ) else (if ((τ 2 4) + x1) ≤ (99999 : Int32) then (lg_X8_go_43 N N x1 0 τ) else (g_X8_found ((-1000005)) τ))
def p_X8_go (N : Nat)  (x1 : Int32) (τ : tw_T) : Prop := if (f_X8_within x1 1 60 τ) = (0 : Int32) then True else (if ((τ 2 4) + x1) ≤ (99999 : Int32) then (lo_X8_go_43 N N x1 0 τ) else True)
theorem lp_X8_go_43 {K : tw_K} {Q : Option Value → tw_T → Prop} (F : tw_F K mX8_go 6 Q)   (N : Nat)  : ∀ (n : Nat) (x1 : Int32) (x2 : Int32) (τ : tw_T), lo_X8_go_43 N n x1 x2 τ → Q (some (.int (lf_X8_go_43 N n x1 x2 τ))) (lg_X8_go_43 N n x1 x2 τ) → tw_R K 43 [.ref 0, .int x1, .int x2] [] τ := by
  intro n
  induction n with
  | zero => intro x1 x2 τ hp _; exact False.elim hp
  | succ n ih =>
    intro x1 x2 τ hp hq
    simp only [lo_X8_go_43] at hp
    simp only [lf_X8_go_43, lg_X8_go_43] at hq
    refine rw_iload_n F dc_X8_go_43 rfl ?_
    refine rw_iload_n F dc_X8_go_44 rfl ?_
    refine rw_icmp_ge (tgt := 61) F dc_X8_go_45 rfl (fun c1 => ?_) (fun c1 => ?_)
    · rw [if_pos c1] at hp
      refine rw_aload_n F dc_X8_go_61 rfl ?_
      refine rw_getR F dc_X8_go_62 fl_RX8_12 (by first | rfl | assumption | decide | exact r73_k (by assumption) | exact fb_k (by assumption) | exact sb_k (by assumption) | exact tb_k (by assumption) | exact sb_li (by assumption) | exact sb_s (by assumption) | exact tb_n (by assumption) | exact fb_k (sb_f (by assumption))) (by first | rfl | assumption | exact lk6 (by assumption) _ | exact lk2 (by assumption) _ | exact fb_l0 (by assumption) | exact fb_l1 (by assumption) | exact sb_l0 (by assumption) | exact sb_l1 (by assumption) | exact sb_l2 (by assumption) | exact sb_l3 (by assumption) | exact tb_l0 (by assumption) | exact tb_l1 (by assumption) | exact tb_l2 (by assumption) | exact lk2 (sb_li (by assumption)) _ | exact fb_l0 (sb_f (by assumption)) | exact fb_l1 (sb_f (by assumption))) ?_
      refine rw_getR F dc_X8_go_65 fl_RX8_101 (by first | rfl | assumption | decide | exact r73_k (by assumption) | exact fb_k (by assumption) | exact sb_k (by assumption) | exact tb_k (by assumption) | exact sb_li (by assumption) | exact sb_s (by assumption) | exact tb_n (by assumption) | exact fb_k (sb_f (by assumption))) (by first | rfl | assumption | exact lk6 (by assumption) _ | exact lk2 (by assumption) _ | exact fb_l0 (by assumption) | exact fb_l1 (by assumption) | exact sb_l0 (by assumption) | exact sb_l1 (by assumption) | exact sb_l2 (by assumption) | exact sb_l3 (by assumption) | exact tb_l0 (by assumption) | exact tb_l1 (by assumption) | exact tb_l2 (by assumption) | exact lk2 (sb_li (by assumption)) _ | exact fb_l0 (sb_f (by assumption)) | exact fb_l1 (sb_f (by assumption))) ?_
      obtain ⟨hs2, hp⟩ := hp
      refine rw_cVi F [] dc_X8_go_68 mv_X1_strandedOfAll ml_RX8_151 (by decide) (rc_1 (by first | rfl | assumption | decide | exact r73_k (by assumption) | exact fb_k (by assumption) | exact sb_k (by assumption) | exact tb_k (by assumption) | exact sb_li (by assumption) | exact sb_s (by assumption) | exact tb_n (by assumption) | exact fb_k (sb_f (by assumption)))) rfl rfl (Nat.le_of_ble_eq_true rfl) (cr_X1_strandedOfAll hs2) ?_
      refine rw_iret F dc_X8_go_71 rfl rfl ?_
      exact (by simpa only [if_pos c1] using hq)
    · rw [if_neg c1] at hp
      refine rw_aload_n F dc_X8_go_48 rfl ?_
      refine rw_getR F dc_X8_go_49 fl_RX8_12 (by first | rfl | assumption | decide | exact r73_k (by assumption) | exact fb_k (by assumption) | exact sb_k (by assumption) | exact tb_k (by assumption) | exact sb_li (by assumption) | exact sb_s (by assumption) | exact tb_n (by assumption) | exact fb_k (sb_f (by assumption))) (by first | rfl | assumption | exact lk6 (by assumption) _ | exact lk2 (by assumption) _ | exact fb_l0 (by assumption) | exact fb_l1 (by assumption) | exact sb_l0 (by assumption) | exact sb_l1 (by assumption) | exact sb_l2 (by assumption) | exact sb_l3 (by assumption) | exact tb_l0 (by assumption) | exact tb_l1 (by assumption) | exact tb_l2 (by assumption) | exact lk2 (sb_li (by assumption)) _ | exact fb_l0 (sb_f (by assumption)) | exact fb_l1 (sb_f (by assumption))) ?_
      obtain ⟨hs3, hp⟩ := hp
      refine rw_cVv F [] dc_X8_go_52 mv_X4_passTick ml_RX8_148 (by decide) (rc_4 (by first | rfl | assumption | decide | exact r73_k (by assumption) | exact fb_k (by assumption) | exact sb_k (by assumption) | exact tb_k (by assumption) | exact sb_li (by assumption) | exact sb_s (by assumption) | exact tb_n (by assumption) | exact fb_k (sb_f (by assumption)))) rfl rfl (Nat.le_of_ble_eq_true rfl) (ct_X4_passTick hs3) ?_
      refine rw_inc (n1 := 1) F dc_X8_go_55 rfl rfl (by decide) rfl ?_
      refine rw_goto (tgt := 43) F dc_X8_go_58 rfl ?_
      exact ih _ _ _ hp (by simpa only [if_neg c1] using hq)
theorem cr_X8_go {E : tw_E}  {N : Nat}  {x1 : Int32} {τ : tw_T} (hp : p_X8_go N x1 τ)  : tw_Ci E 6 mX8_go [.ref 0, .int x1] τ (f_X8_go N x1 τ) (g_X8_go N x1 τ) := by
  unfold p_X8_go at hp
  refine ct_of (by decide) (by simp [Value.category]) (Nat.le_of_ble_eq_true rfl) (fun K hE F => ?_)
  subst hE
  refine rw_iload_n F dc_X8_go_0 rfl ?_
  refine rw_iconst (v := 1) F dc_X8_go_1 rfl ?_
  refine rw_bipush (v := 60) F dc_X8_go_2 rfl ?_
  refine rw_cSi F [_, _, _] dc_X8_go_4 ms_X8_within ml_RX8_97 (by decide)  rfl rfl (Nat.le_of_ble_eq_true rfl) ct_X8_within ?_
  refine rw_if_ne (tgt := 17) F dc_X8_go_7 rfl (fun c1 => ?_) (fun c1 => ?_)
  · rw [if_neg c1] at hp
    refine rw_aload_n F dc_X8_go_17 rfl ?_
    refine rw_getR F dc_X8_go_18 fl_RX8_12 (by first | rfl | assumption | decide | exact r73_k (by assumption) | exact fb_k (by assumption) | exact sb_k (by assumption) | exact tb_k (by assumption) | exact sb_li (by assumption) | exact sb_s (by assumption) | exact tb_n (by assumption) | exact fb_k (sb_f (by assumption))) (by first | rfl | assumption | exact lk6 (by assumption) _ | exact lk2 (by assumption) _ | exact fb_l0 (by assumption) | exact fb_l1 (by assumption) | exact sb_l0 (by assumption) | exact sb_l1 (by assumption) | exact sb_l2 (by assumption) | exact sb_l3 (by assumption) | exact tb_l0 (by assumption) | exact tb_l1 (by assumption) | exact tb_l2 (by assumption) | exact lk2 (sb_li (by assumption)) _ | exact fb_l0 (sb_f (by assumption)) | exact fb_l1 (sb_f (by assumption))) ?_
    refine rw_getR F dc_X8_go_21 fl_RX8_87 (by first | rfl | assumption | decide | exact r73_k (by assumption) | exact fb_k (by assumption) | exact sb_k (by assumption) | exact tb_k (by assumption) | exact sb_li (by assumption) | exact sb_s (by assumption) | exact tb_n (by assumption) | exact fb_k (sb_f (by assumption))) (by first | rfl | assumption | exact lk6 (by assumption) _ | exact lk2 (by assumption) _ | exact fb_l0 (by assumption) | exact fb_l1 (by assumption) | exact sb_l0 (by assumption) | exact sb_l1 (by assumption) | exact sb_l2 (by assumption) | exact sb_l3 (by assumption) | exact tb_l0 (by assumption) | exact tb_l1 (by assumption) | exact tb_l2 (by assumption) | exact lk2 (sb_li (by assumption)) _ | exact fb_l0 (sb_f (by assumption)) | exact fb_l1 (sb_f (by assumption))) ?_
    refine rw_getI F dc_X8_go_24 fl_RX8_127 (by first | rfl | assumption | decide | exact r73_k (by assumption) | exact fb_k (by assumption) | exact sb_k (by assumption) | exact tb_k (by assumption) | exact sb_li (by assumption) | exact sb_s (by assumption) | exact tb_n (by assumption) | exact fb_k (sb_f (by assumption))) (by first | rfl | assumption | exact lk6 (by assumption) _ | exact lk2 (by assumption) _ | exact fb_l0 (by assumption) | exact fb_l1 (by assumption) | exact sb_l0 (by assumption) | exact sb_l1 (by assumption) | exact sb_l2 (by assumption) | exact sb_l3 (by assumption) | exact tb_l0 (by assumption) | exact tb_l1 (by assumption) | exact tb_l2 (by assumption) | exact lk2 (sb_li (by assumption)) _ | exact fb_l0 (sb_f (by assumption)) | exact fb_l1 (sb_f (by assumption))) ?_
    refine rw_iload_n F dc_X8_go_27 rfl ?_
    refine rw_iadd F dc_X8_go_28 ?_
    refine rw_ldc F dc_X8_go_29 kc_RX8_146 ?_
    refine rw_icmp_le (tgt := 41) F dc_X8_go_31 rfl (fun c2 => ?_) (fun c2 => ?_)
    · rw [if_pos c2] at hp
      refine rw_iconst (v := 0) F dc_X8_go_41 rfl ?_
      refine rw_istore_n F dc_X8_go_42 (by decide) rfl ?_
      exact lp_X8_go_43 F  N N _ _ _ hp ⟨by first | (simp only [f_X8_go, g_X8_go, if_neg c1, if_pos c2]; done) | rfl | (simp only [f_X8_go, g_X8_go, if_neg c1, if_pos c2]; rfl), by first | (simp only [f_X8_go, g_X8_go, if_neg c1, if_pos c2]; done) | rfl | (simp only [f_X8_go, g_X8_go, if_neg c1, if_pos c2]; rfl)⟩
    · rw [if_neg c2] at hp
      refine rw_aload_n F dc_X8_go_34 rfl ?_
      refine rw_ldc F dc_X8_go_35 kc_RX8_147 ?_
      refine rw_cVi F [_] dc_X8_go_37 mv_X8_found ml_RX8_83 (by decide) (rc_8 (by first | rfl | assumption | decide | exact r73_k (by assumption) | exact fb_k (by assumption) | exact sb_k (by assumption) | exact tb_k (by assumption) | exact sb_li (by assumption) | exact sb_s (by assumption) | exact tb_n (by assumption) | exact fb_k (sb_f (by assumption)))) rfl rfl (Nat.le_of_ble_eq_true rfl) cn_X8_found ?_
      refine rw_iret F dc_X8_go_40 rfl rfl ?_
      exact ⟨by first | (simp only [f_X8_go, g_X8_go, if_neg c1, if_neg c2]; done) | rfl | (simp only [f_X8_go, g_X8_go, if_neg c1, if_neg c2]; rfl), by first | (simp only [f_X8_go, g_X8_go, if_neg c1, if_neg c2]; done) | rfl | (simp only [f_X8_go, g_X8_go, if_neg c1, if_neg c2]; rfl)⟩
  · rw [if_pos c1] at hp
    refine rw_aload_n F dc_X8_go_10 rfl ?_
    refine rw_ldc F dc_X8_go_11 kc_RX8_82 ?_
    refine rw_cVi F [_] dc_X8_go_13 mv_X8_found ml_RX8_83 (by decide) (rc_8 (by first | rfl | assumption | decide | exact r73_k (by assumption) | exact fb_k (by assumption) | exact sb_k (by assumption) | exact tb_k (by assumption) | exact sb_li (by assumption) | exact sb_s (by assumption) | exact tb_n (by assumption) | exact fb_k (sb_f (by assumption)))) rfl rfl (Nat.le_of_ble_eq_true rfl) cn_X8_found ?_
    refine rw_iret F dc_X8_go_16 rfl rfl ?_
    exact ⟨by first | (simp only [f_X8_go, g_X8_go, if_pos c1]; done) | rfl | (simp only [f_X8_go, g_X8_go, if_pos c1]; rfl), by first | (simp only [f_X8_go, g_X8_go, if_pos c1]; done) | rfl | (simp only [f_X8_go, g_X8_go, if_pos c1]; rfl)⟩
def lf_X8_lagFor_39 (N : Nat)  : Nat → Int32 → Int32 → Int32 → Int32 → tw_T → Int32
  | 0, _, _, _, _, _ => 0
  | n + 1, x1, x2, x3, x4, τ => if (23 : Int32) < x4 then x2 else (if x3 ≤ (f_X1_strandedOfAll N 33 (g_X1_sailOn N 33 44 x1 (g_X1_take N 33 3 (tw_sr τ 44 (upd (τ 44) 1 x4))))) then (lf_X8_lagFor_39 N n x1 x2 x3 (x4 + 1) (g_X1_sailOn N 33 44 x1 (g_X1_take N 33 3 (tw_sr τ 44 (upd (τ 44) 1 x4))))) else (lf_X8_lagFor_39 N n x1 x4 (f_X1_strandedOfAll N 33 (g_X1_sailOn N 33 44 x1 (g_X1_take N 33 3 (tw_sr τ 44 (upd (τ 44) 1 x4))))) (x4 + 1) (g_X1_sailOn N 33 44 x1 (g_X1_take N 33 3 (tw_sr τ 44 (upd (τ 44) 1 x4))))))
def lg_X8_lagFor_39 (N : Nat)  : Nat → Int32 → Int32 → Int32 → Int32 → tw_T → tw_T
  | 0, _, _, _, _, τ => τ
  | n + 1, x1, x2, x3, x4, τ => if (23 : Int32) < x4 then τ else (if x3 ≤ (f_X1_strandedOfAll N 33 (g_X1_sailOn N 33 44 x1 (g_X1_take N 33 3 (tw_sr τ 44 (upd (τ 44) 1 x4))))) then (lg_X8_lagFor_39 N n x1 x2 x3 (x4 + 1) (g_X1_sailOn N 33 44 x1 (g_X1_take N 33 3 (tw_sr τ 44 (upd (τ 44) 1 x4))))) else (lg_X8_lagFor_39 N n x1 x4 (f_X1_strandedOfAll N 33 (g_X1_sailOn N 33 44 x1 (g_X1_take N 33 3 (tw_sr τ 44 (upd (τ 44) 1 x4))))) (x4 + 1) (g_X1_sailOn N 33 44 x1 (g_X1_take N 33 3 (tw_sr τ 44 (upd (τ 44) 1 x4))))))
def lo_X8_lagFor_39 (N : Nat)  : Nat → Int32 → Int32 → Int32 → Int32 → tw_T → Prop
  | 0, _, _, _, _, _ => False
  | n + 1, x1, x2, x3, x4, τ => if (23 : Int32) < x4 then True else (p_X1_take N 33 3 (tw_sr τ 44 (upd (τ 44) 1 x4)) ∧ (p_X1_sailOn N 33 44 x1 (g_X1_take N 33 3 (tw_sr τ 44 (upd (τ 44) 1 x4))) ∧ (p_X1_strandedOfAll N 33 (g_X1_sailOn N 33 44 x1 (g_X1_take N 33 3 (tw_sr τ 44 (upd (τ 44) 1 x4)))) ∧ (if x3 ≤ (f_X1_strandedOfAll N 33 (g_X1_sailOn N 33 44 x1 (g_X1_take N 33 3 (tw_sr τ 44 (upd (τ 44) 1 x4))))) then (lo_X8_lagFor_39 N n x1 x2 x3 (x4 + 1) (g_X1_sailOn N 33 44 x1 (g_X1_take N 33 3 (tw_sr τ 44 (upd (τ 44) 1 x4))))) else (lo_X8_lagFor_39 N n x1 x4 (f_X1_strandedOfAll N 33 (g_X1_sailOn N 33 44 x1 (g_X1_take N 33 3 (tw_sr τ 44 (upd (τ 44) 1 x4))))) (x4 + 1) (g_X1_sailOn N 33 44 x1 (g_X1_take N 33 3 (tw_sr τ 44 (upd (τ 44) 1 x4)))))))))
def f_X8_lagFor (N : Nat)  (x1 : Int32) (τ : tw_T) : Int32 := if (f_X8_within x1 0 60 τ) = (0 : Int32) then ((-1000001)) else (lf_X8_lagFor_39 N N x1 0 79993 0 (g_X2_take 44 2 τ))
def g_X8_lagFor (N : Nat)  (x1 : Int32) (τ : tw_T) : tw_T := if (f_X8_within x1 0 60 τ) = (0 : Int32) then (g_X8_found ((-1000001)) τ) else (lg_X8_lagFor_39 N N x1 0 79993 0 (g_X2_take 44 2 τ))
def p_X8_lagFor (N : Nat)  (x1 : Int32) (τ : tw_T) : Prop := if (f_X8_within x1 0 60 τ) = (0 : Int32) then True else (lo_X8_lagFor_39 N N x1 0 79993 0 (g_X2_take 44 2 τ))
theorem lp_X8_lagFor_39 {K : tw_K} {Q : Option Value → tw_T → Prop} (F : tw_F K mX8_lagFor 6 Q)   (N : Nat)  : ∀ (n : Nat) (x1 : Int32) (x2 : Int32) (x3 : Int32) (x4 : Int32) (τ : tw_T), lo_X8_lagFor_39 N n x1 x2 x3 x4 τ → Q (some (.int (lf_X8_lagFor_39 N n x1 x2 x3 x4 τ))) (lg_X8_lagFor_39 N n x1 x2 x3 x4 τ) → tw_R K 39 [.ref 0, .int x1, .int x2, .int x3, .int x4, .null] [] τ := by
  intro n
  induction n with
  | zero => intro x1 x2 x3 x4 τ hp _; exact False.elim hp
  | succ n ih =>
    intro x1 x2 x3 x4 τ hp hq
    simp only [lo_X8_lagFor_39] at hp
    simp only [lf_X8_lagFor_39, lg_X8_lagFor_39] at hq
    refine rw_iload F dc_X8_lagFor_39 rfl ?_
    refine rw_bipush (v := 23) F dc_X8_lagFor_41 rfl ?_
    refine rw_icmp_gt (tgt := 117) F dc_X8_lagFor_43 rfl (fun c1 => ?_) (fun c1 => ?_)
    · rw [if_pos c1] at hp
      refine rw_iload_n F dc_X8_lagFor_117 rfl ?_
      refine rw_iret F dc_X8_lagFor_118 rfl rfl ?_
      exact (by simpa only [if_pos c1] using hq)
    · rw [if_neg c1] at hp
      refine rw_aload_n F dc_X8_lagFor_46 rfl ?_
      refine rw_getR F dc_X8_lagFor_47 fl_RX8_46 (by first | rfl | assumption | decide | exact r73_k (by assumption) | exact fb_k (by assumption) | exact sb_k (by assumption) | exact tb_k (by assumption) | exact sb_li (by assumption) | exact sb_s (by assumption) | exact tb_n (by assumption) | exact fb_k (sb_f (by assumption))) (by first | rfl | assumption | exact lk6 (by assumption) _ | exact lk2 (by assumption) _ | exact fb_l0 (by assumption) | exact fb_l1 (by assumption) | exact sb_l0 (by assumption) | exact sb_l1 (by assumption) | exact sb_l2 (by assumption) | exact sb_l3 (by assumption) | exact tb_l0 (by assumption) | exact tb_l1 (by assumption) | exact tb_l2 (by assumption) | exact lk2 (sb_li (by assumption)) _ | exact fb_l0 (sb_f (by assumption)) | exact fb_l1 (sb_f (by assumption))) ?_
      refine rw_iload F dc_X8_lagFor_50 rfl ?_
      refine rw_put F dc_X8_lagFor_52 pf_RX8_207 (by first | rfl | assumption | decide | exact r73_k (by assumption) | exact fb_k (by assumption) | exact sb_k (by assumption) | exact tb_k (by assumption) | exact sb_li (by assumption) | exact sb_s (by assumption) | exact tb_n (by assumption) | exact fb_k (sb_f (by assumption))) (by first | rfl | assumption | exact lk6 (by assumption) _ | exact lk2 (by assumption) _ | exact fb_l0 (by assumption) | exact fb_l1 (by assumption) | exact sb_l0 (by assumption) | exact sb_l1 (by assumption) | exact sb_l2 (by assumption) | exact sb_l3 (by assumption) | exact tb_l0 (by assumption) | exact tb_l1 (by assumption) | exact tb_l2 (by assumption) | exact lk2 (sb_li (by assumption)) _ | exact fb_l0 (sb_f (by assumption)) | exact fb_l1 (sb_f (by assumption))) rfl rfl ?_
      refine rw_aload_n F dc_X8_lagFor_55 rfl ?_
      refine rw_getR F dc_X8_lagFor_56 fl_RX8_40 (by first | rfl | assumption | decide | exact r73_k (by assumption) | exact fb_k (by assumption) | exact sb_k (by assumption) | exact tb_k (by assumption) | exact sb_li (by assumption) | exact sb_s (by assumption) | exact tb_n (by assumption) | exact fb_k (sb_f (by assumption))) (by first | rfl | assumption | exact lk6 (by assumption) _ | exact lk2 (by assumption) _ | exact fb_l0 (by assumption) | exact fb_l1 (by assumption) | exact sb_l0 (by assumption) | exact sb_l1 (by assumption) | exact sb_l2 (by assumption) | exact sb_l3 (by assumption) | exact tb_l0 (by assumption) | exact tb_l1 (by assumption) | exact tb_l2 (by assumption) | exact lk2 (sb_li (by assumption)) _ | exact fb_l0 (sb_f (by assumption)) | exact fb_l1 (sb_f (by assumption))) ?_
      refine rw_getR F dc_X8_lagFor_59 fl_RX8_101 (by first | rfl | assumption | decide | exact r73_k (by assumption) | exact fb_k (by assumption) | exact sb_k (by assumption) | exact tb_k (by assumption) | exact sb_li (by assumption) | exact sb_s (by assumption) | exact tb_n (by assumption) | exact fb_k (sb_f (by assumption))) (by first | rfl | assumption | exact lk6 (by assumption) _ | exact lk2 (by assumption) _ | exact fb_l0 (by assumption) | exact fb_l1 (by assumption) | exact sb_l0 (by assumption) | exact sb_l1 (by assumption) | exact sb_l2 (by assumption) | exact sb_l3 (by assumption) | exact tb_l0 (by assumption) | exact tb_l1 (by assumption) | exact tb_l2 (by assumption) | exact lk2 (sb_li (by assumption)) _ | exact fb_l0 (sb_f (by assumption)) | exact fb_l1 (sb_f (by assumption))) ?_
      refine rw_aload_n F dc_X8_lagFor_62 rfl ?_
      refine rw_getR F dc_X8_lagFor_63 fl_RX8_12 (by first | rfl | assumption | decide | exact r73_k (by assumption) | exact fb_k (by assumption) | exact sb_k (by assumption) | exact tb_k (by assumption) | exact sb_li (by assumption) | exact sb_s (by assumption) | exact tb_n (by assumption) | exact fb_k (sb_f (by assumption))) (by first | rfl | assumption | exact lk6 (by assumption) _ | exact lk2 (by assumption) _ | exact fb_l0 (by assumption) | exact fb_l1 (by assumption) | exact sb_l0 (by assumption) | exact sb_l1 (by assumption) | exact sb_l2 (by assumption) | exact sb_l3 (by assumption) | exact tb_l0 (by assumption) | exact tb_l1 (by assumption) | exact tb_l2 (by assumption) | exact lk2 (sb_li (by assumption)) _ | exact fb_l0 (sb_f (by assumption)) | exact fb_l1 (sb_f (by assumption))) ?_
      refine rw_getR F dc_X8_lagFor_66 fl_RX8_101 (by first | rfl | assumption | decide | exact r73_k (by assumption) | exact fb_k (by assumption) | exact sb_k (by assumption) | exact tb_k (by assumption) | exact sb_li (by assumption) | exact sb_s (by assumption) | exact tb_n (by assumption) | exact fb_k (sb_f (by assumption))) (by first | rfl | assumption | exact lk6 (by assumption) _ | exact lk2 (by assumption) _ | exact fb_l0 (by assumption) | exact fb_l1 (by assumption) | exact sb_l0 (by assumption) | exact sb_l1 (by assumption) | exact sb_l2 (by assumption) | exact sb_l3 (by assumption) | exact tb_l0 (by assumption) | exact tb_l1 (by assumption) | exact tb_l2 (by assumption) | exact lk2 (sb_li (by assumption)) _ | exact fb_l0 (sb_f (by assumption)) | exact fb_l1 (sb_f (by assumption))) ?_
      obtain ⟨hs2, hp⟩ := hp
      refine rw_cVv F [_] dc_X8_lagFor_69 mv_X1_take ml_RX8_210 (by decide) (rc_1 (by first | rfl | assumption | decide | exact r73_k (by assumption) | exact fb_k (by assumption) | exact sb_k (by assumption) | exact tb_k (by assumption) | exact sb_li (by assumption) | exact sb_s (by assumption) | exact tb_n (by assumption) | exact fb_k (sb_f (by assumption)))) rfl rfl (Nat.le_of_ble_eq_true rfl) (cr_X1_take hs2) ?_
      refine rw_aload_n F dc_X8_lagFor_72 rfl ?_
      refine rw_getR F dc_X8_lagFor_73 fl_RX8_40 (by first | rfl | assumption | decide | exact r73_k (by assumption) | exact fb_k (by assumption) | exact sb_k (by assumption) | exact tb_k (by assumption) | exact sb_li (by assumption) | exact sb_s (by assumption) | exact tb_n (by assumption) | exact fb_k (sb_f (by assumption))) (by first | rfl | assumption | exact lk6 (by assumption) _ | exact lk2 (by assumption) _ | exact fb_l0 (by assumption) | exact fb_l1 (by assumption) | exact sb_l0 (by assumption) | exact sb_l1 (by assumption) | exact sb_l2 (by assumption) | exact sb_l3 (by assumption) | exact tb_l0 (by assumption) | exact tb_l1 (by assumption) | exact tb_l2 (by assumption) | exact lk2 (sb_li (by assumption)) _ | exact fb_l0 (sb_f (by assumption)) | exact fb_l1 (sb_f (by assumption))) ?_
      refine rw_getR F dc_X8_lagFor_76 fl_RX8_101 (by first | rfl | assumption | decide | exact r73_k (by assumption) | exact fb_k (by assumption) | exact sb_k (by assumption) | exact tb_k (by assumption) | exact sb_li (by assumption) | exact sb_s (by assumption) | exact tb_n (by assumption) | exact fb_k (sb_f (by assumption))) (by first | rfl | assumption | exact lk6 (by assumption) _ | exact lk2 (by assumption) _ | exact fb_l0 (by assumption) | exact fb_l1 (by assumption) | exact sb_l0 (by assumption) | exact sb_l1 (by assumption) | exact sb_l2 (by assumption) | exact sb_l3 (by assumption) | exact tb_l0 (by assumption) | exact tb_l1 (by assumption) | exact tb_l2 (by assumption) | exact lk2 (sb_li (by assumption)) _ | exact fb_l0 (sb_f (by assumption)) | exact fb_l1 (sb_f (by assumption))) ?_
      refine rw_aload_n F dc_X8_lagFor_79 rfl ?_
      refine rw_getR F dc_X8_lagFor_80 fl_RX8_46 (by first | rfl | assumption | decide | exact r73_k (by assumption) | exact fb_k (by assumption) | exact sb_k (by assumption) | exact tb_k (by assumption) | exact sb_li (by assumption) | exact sb_s (by assumption) | exact tb_n (by assumption) | exact fb_k (sb_f (by assumption))) (by first | rfl | assumption | exact lk6 (by assumption) _ | exact lk2 (by assumption) _ | exact fb_l0 (by assumption) | exact fb_l1 (by assumption) | exact sb_l0 (by assumption) | exact sb_l1 (by assumption) | exact sb_l2 (by assumption) | exact sb_l3 (by assumption) | exact tb_l0 (by assumption) | exact tb_l1 (by assumption) | exact tb_l2 (by assumption) | exact lk2 (sb_li (by assumption)) _ | exact fb_l0 (sb_f (by assumption)) | exact fb_l1 (sb_f (by assumption))) ?_
      refine rw_iload_n F dc_X8_lagFor_83 rfl ?_
      obtain ⟨hs3, hp⟩ := hp
      refine rw_cVv F [_, _] dc_X8_lagFor_84 mv_X1_sailOn ml_RX8_213 (by decide) (rc_1 (by first | rfl | assumption | decide | exact r73_k (by assumption) | exact fb_k (by assumption) | exact sb_k (by assumption) | exact tb_k (by assumption) | exact sb_li (by assumption) | exact sb_s (by assumption) | exact tb_n (by assumption) | exact fb_k (sb_f (by assumption)))) rfl rfl (Nat.le_of_ble_eq_true rfl) (cr_X1_sailOn hs3) ?_
      refine rw_aload_n F dc_X8_lagFor_87 rfl ?_
      refine rw_getR F dc_X8_lagFor_88 fl_RX8_40 (by first | rfl | assumption | decide | exact r73_k (by assumption) | exact fb_k (by assumption) | exact sb_k (by assumption) | exact tb_k (by assumption) | exact sb_li (by assumption) | exact sb_s (by assumption) | exact tb_n (by assumption) | exact fb_k (sb_f (by assumption))) (by first | rfl | assumption | exact lk6 (by assumption) _ | exact lk2 (by assumption) _ | exact fb_l0 (by assumption) | exact fb_l1 (by assumption) | exact sb_l0 (by assumption) | exact sb_l1 (by assumption) | exact sb_l2 (by assumption) | exact sb_l3 (by assumption) | exact tb_l0 (by assumption) | exact tb_l1 (by assumption) | exact tb_l2 (by assumption) | exact lk2 (sb_li (by assumption)) _ | exact fb_l0 (sb_f (by assumption)) | exact fb_l1 (sb_f (by assumption))) ?_
      refine rw_getR F dc_X8_lagFor_91 fl_RX8_101 (by first | rfl | assumption | decide | exact r73_k (by assumption) | exact fb_k (by assumption) | exact sb_k (by assumption) | exact tb_k (by assumption) | exact sb_li (by assumption) | exact sb_s (by assumption) | exact tb_n (by assumption) | exact fb_k (sb_f (by assumption))) (by first | rfl | assumption | exact lk6 (by assumption) _ | exact lk2 (by assumption) _ | exact fb_l0 (by assumption) | exact fb_l1 (by assumption) | exact sb_l0 (by assumption) | exact sb_l1 (by assumption) | exact sb_l2 (by assumption) | exact sb_l3 (by assumption) | exact tb_l0 (by assumption) | exact tb_l1 (by assumption) | exact tb_l2 (by assumption) | exact lk2 (sb_li (by assumption)) _ | exact fb_l0 (sb_f (by assumption)) | exact fb_l1 (sb_f (by assumption))) ?_
      obtain ⟨hs4, hp⟩ := hp
      refine rw_cVi F [] dc_X8_lagFor_94 mv_X1_strandedOfAll ml_RX8_151 (by decide) (rc_1 (by first | rfl | assumption | decide | exact r73_k (by assumption) | exact fb_k (by assumption) | exact sb_k (by assumption) | exact tb_k (by assumption) | exact sb_li (by assumption) | exact sb_s (by assumption) | exact tb_n (by assumption) | exact fb_k (sb_f (by assumption)))) rfl rfl (Nat.le_of_ble_eq_true rfl) (cr_X1_strandedOfAll hs4) ?_
      refine rw_istore F dc_X8_lagFor_97 (by decide) rfl ?_
      refine rw_iload F dc_X8_lagFor_99 rfl ?_
      refine rw_iload_n F dc_X8_lagFor_101 rfl ?_
      refine rw_icmp_ge (tgt := 111) F dc_X8_lagFor_102 rfl (fun c5 => ?_) (fun c5 => ?_)
      · rw [if_pos c5] at hp
        refine rw_inc (n1 := 1) F dc_X8_lagFor_111 rfl rfl (by decide) rfl ?_
        refine rw_goto (tgt := 39) F dc_X8_lagFor_114 rfl ?_
        refine rw_nul 5 ?_
        exact ih _ _ _ _ _ hp (by simpa only [if_neg c1, if_pos c5] using hq)
      · rw [if_neg c5] at hp
        refine rw_iload F dc_X8_lagFor_105 rfl ?_
        refine rw_istore_n F dc_X8_lagFor_107 (by decide) rfl ?_
        refine rw_iload F dc_X8_lagFor_108 rfl ?_
        refine rw_istore_n F dc_X8_lagFor_110 (by decide) rfl ?_
        refine rw_inc (n1 := 1) F dc_X8_lagFor_111 rfl rfl (by decide) rfl ?_
        refine rw_goto (tgt := 39) F dc_X8_lagFor_114 rfl ?_
        refine rw_nul 5 ?_
        exact ih _ _ _ _ _ hp (by simpa only [if_neg c1, if_neg c5] using hq)
theorem cr_X8_lagFor {E : tw_E}  {N : Nat}  {x1 : Int32} {τ : tw_T} (hp : p_X8_lagFor N x1 τ)  : tw_Ci E 6 mX8_lagFor [.ref 0, .int x1] τ (f_X8_lagFor N x1 τ) (g_X8_lagFor N x1 τ) := by
  unfold p_X8_lagFor at hp
  refine ct_of (by decide) (by simp [Value.category]) (Nat.le_of_ble_eq_true rfl) (fun K hE F => ?_)
  subst hE
  refine rw_iload_n F dc_X8_lagFor_0 rfl ?_
  refine rw_iconst (v := 0) F dc_X8_lagFor_1 rfl ?_
  refine rw_bipush (v := 60) F dc_X8_lagFor_2 rfl ?_
  refine rw_cSi F [_, _, _] dc_X8_lagFor_4 ms_X8_within ml_RX8_97 (by decide)  rfl rfl (Nat.le_of_ble_eq_true rfl) ct_X8_within ?_
  refine rw_if_ne (tgt := 17) F dc_X8_lagFor_7 rfl (fun c1 => ?_) (fun c1 => ?_)
  · rw [if_neg c1] at hp
    refine rw_aload_n F dc_X8_lagFor_17 rfl ?_
    refine rw_getR F dc_X8_lagFor_18 fl_RX8_46 (by first | rfl | assumption | decide | exact r73_k (by assumption) | exact fb_k (by assumption) | exact sb_k (by assumption) | exact tb_k (by assumption) | exact sb_li (by assumption) | exact sb_s (by assumption) | exact tb_n (by assumption) | exact fb_k (sb_f (by assumption))) (by first | rfl | assumption | exact lk6 (by assumption) _ | exact lk2 (by assumption) _ | exact fb_l0 (by assumption) | exact fb_l1 (by assumption) | exact sb_l0 (by assumption) | exact sb_l1 (by assumption) | exact sb_l2 (by assumption) | exact sb_l3 (by assumption) | exact tb_l0 (by assumption) | exact tb_l1 (by assumption) | exact tb_l2 (by assumption) | exact lk2 (sb_li (by assumption)) _ | exact fb_l0 (sb_f (by assumption)) | exact fb_l1 (sb_f (by assumption))) ?_
    refine rw_aload_n F dc_X8_lagFor_21 rfl ?_
    refine rw_getR F dc_X8_lagFor_22 fl_RX8_12 (by first | rfl | assumption | decide | exact r73_k (by assumption) | exact fb_k (by assumption) | exact sb_k (by assumption) | exact tb_k (by assumption) | exact sb_li (by assumption) | exact sb_s (by assumption) | exact tb_n (by assumption) | exact fb_k (sb_f (by assumption))) (by first | rfl | assumption | exact lk6 (by assumption) _ | exact lk2 (by assumption) _ | exact fb_l0 (by assumption) | exact fb_l1 (by assumption) | exact sb_l0 (by assumption) | exact sb_l1 (by assumption) | exact sb_l2 (by assumption) | exact sb_l3 (by assumption) | exact tb_l0 (by assumption) | exact tb_l1 (by assumption) | exact tb_l2 (by assumption) | exact lk2 (sb_li (by assumption)) _ | exact fb_l0 (sb_f (by assumption)) | exact fb_l1 (sb_f (by assumption))) ?_
    refine rw_getR F dc_X8_lagFor_25 fl_RX8_87 (by first | rfl | assumption | decide | exact r73_k (by assumption) | exact fb_k (by assumption) | exact sb_k (by assumption) | exact tb_k (by assumption) | exact sb_li (by assumption) | exact sb_s (by assumption) | exact tb_n (by assumption) | exact fb_k (sb_f (by assumption))) (by first | rfl | assumption | exact lk6 (by assumption) _ | exact lk2 (by assumption) _ | exact fb_l0 (by assumption) | exact fb_l1 (by assumption) | exact sb_l0 (by assumption) | exact sb_l1 (by assumption) | exact sb_l2 (by assumption) | exact sb_l3 (by assumption) | exact tb_l0 (by assumption) | exact tb_l1 (by assumption) | exact tb_l2 (by assumption) | exact lk2 (sb_li (by assumption)) _ | exact fb_l0 (sb_f (by assumption)) | exact fb_l1 (sb_f (by assumption))) ?_
    refine rw_cVv F [_] dc_X8_lagFor_28 mv_X2_take ml_RX8_203 (by decide) (rc_2 (by first | rfl | assumption | decide | exact r73_k (by assumption) | exact fb_k (by assumption) | exact sb_k (by assumption) | exact tb_k (by assumption) | exact sb_li (by assumption) | exact sb_s (by assumption) | exact tb_n (by assumption) | exact fb_k (sb_f (by assumption)))) rfl rfl (Nat.le_of_ble_eq_true rfl) ct_X2_take ?_
    refine rw_iconst (v := 0) F dc_X8_lagFor_31 rfl ?_
    refine rw_istore_n F dc_X8_lagFor_32 (by decide) rfl ?_
    refine rw_ldc F dc_X8_lagFor_33 kc_RX8_206 ?_
    refine rw_istore_n F dc_X8_lagFor_35 (by decide) rfl ?_
    refine rw_iconst (v := 0) F dc_X8_lagFor_36 rfl ?_
    refine rw_istore F dc_X8_lagFor_37 (by decide) rfl ?_
    exact lp_X8_lagFor_39 F  N N _ _ _ _ _ hp ⟨by first | (simp only [f_X8_lagFor, g_X8_lagFor, if_neg c1]; done) | rfl | (simp only [f_X8_lagFor, g_X8_lagFor, if_neg c1]; rfl), by first | (simp only [f_X8_lagFor, g_X8_lagFor, if_neg c1]; done) | rfl | (simp only [f_X8_lagFor, g_X8_lagFor, if_neg c1]; rfl)⟩
  · rw [if_pos c1] at hp
    refine rw_aload_n F dc_X8_lagFor_10 rfl ?_
    refine rw_ldc F dc_X8_lagFor_11 kc_RX8_82 ?_
    refine rw_cVi F [_] dc_X8_lagFor_13 mv_X8_found ml_RX8_83 (by decide) (rc_8 (by first | rfl | assumption | decide | exact r73_k (by assumption) | exact fb_k (by assumption) | exact sb_k (by assumption) | exact tb_k (by assumption) | exact sb_li (by assumption) | exact sb_s (by assumption) | exact tb_n (by assumption) | exact fb_k (sb_f (by assumption)))) rfl rfl (Nat.le_of_ble_eq_true rfl) cn_X8_found ?_
    refine rw_iret F dc_X8_lagFor_16 rfl rfl ?_
    exact ⟨by first | (simp only [f_X8_lagFor, g_X8_lagFor, if_pos c1]; done) | rfl | (simp only [f_X8_lagFor, g_X8_lagFor, if_pos c1]; rfl), by first | (simp only [f_X8_lagFor, g_X8_lagFor, if_pos c1]; done) | rfl | (simp only [f_X8_lagFor, g_X8_lagFor, if_pos c1]; rfl)⟩
def lf_X8_speedFor_27 (N : Nat)  : Nat → Int32 → Int32 → Int32 → tw_T → Int32
  | 0, _, _, _, _ => 0
  | n + 1, x1, x2, x3, τ => if x3 < (0 : Int32) then ((-1000004)) else (if (f_X8_strandedWith N x1 3 x3 x2 τ) = ((g_X8_strandedWith N x1 3 x3 x2 τ) (3 + 2 + x1.toNatClampNeg) 5) then x3 else (lf_X8_speedFor_27 N n x1 x2 (x3 + (-1)) (g_X8_strandedWith N x1 3 x3 x2 τ)))
def lg_X8_speedFor_27 (N : Nat)  : Nat → Int32 → Int32 → Int32 → tw_T → tw_T
  | 0, _, _, _, τ => τ
  | n + 1, x1, x2, x3, τ => if x3 < (0 : Int32) then (g_X8_found ((-1000004)) τ) else (if (f_X8_strandedWith N x1 3 x3 x2 τ) = ((g_X8_strandedWith N x1 3 x3 x2 τ) (3 + 2 + x1.toNatClampNeg) 5) then (g_X8_strandedWith N x1 3 x3 x2 τ) else (lg_X8_speedFor_27 N n x1 x2 (x3 + (-1)) (g_X8_strandedWith N x1 3 x3 x2 τ)))
def lo_X8_speedFor_27 (N : Nat)  : Nat → Int32 → Int32 → Int32 → tw_T → Prop
  | 0, _, _, _, _ => False
  | n + 1, x1, x2, x3, τ => if x3 < (0 : Int32) then True else (p_X8_strandedWith N x1 3 x3 x2 τ ∧ (vp_in x1 8 ∧ (if (f_X8_strandedWith N x1 3 x3 x2 τ) = ((g_X8_strandedWith N x1 3 x3 x2 τ) (3 + 2 + x1.toNatClampNeg) 5) then True else (lo_X8_speedFor_27 N n x1 x2 (x3 + (-1)) (g_X8_strandedWith N x1 3 x3 x2 τ)))))
def f_X8_speedFor (N : Nat)  (x1 : Int32) (x2 : Int32) (τ : tw_T) : Int32 := if (f_X8_isShip x1 τ) = (0 : Int32) then ((-1000001)) else (if (f_X8_within x2 0 60 τ) = (0 : Int32) then ((-1000001)) else (lf_X8_speedFor_27 N N x1 x2 5 τ))
def g_X8_speedFor (N : Nat)  (x1 : Int32) (x2 : Int32) (τ : tw_T) : tw_T := if (f_X8_isShip x1 τ) = (0 : Int32) then (g_X8_found ((-1000001)) τ) else (if (f_X8_within x2 0 60 τ) = (0 : Int32) then (g_X8_found ((-1000001)) τ) else (lg_X8_speedFor_27 N N x1 x2 5 τ))
def p_X8_speedFor (N : Nat)  (x1 : Int32) (x2 : Int32) (τ : tw_T) : Prop := if (f_X8_isShip x1 τ) = (0 : Int32) then True else (if (f_X8_within x2 0 60 τ) = (0 : Int32) then True else (lo_X8_speedFor_27 N N x1 x2 5 τ))
theorem lp_X8_speedFor_27 {K : tw_K} {Q : Option Value → tw_T → Prop} (F : tw_F K mX8_speedFor 6 Q)   (N : Nat)  : ∀ (n : Nat) (x1 : Int32) (x2 : Int32) (x3 : Int32) (τ : tw_T), lo_X8_speedFor_27 N n x1 x2 x3 τ → Q (some (.int (lf_X8_speedFor_27 N n x1 x2 x3 τ))) (lg_X8_speedFor_27 N n x1 x2 x3 τ) → tw_R K 27 [.ref 0, .int x1, .int x2, .int x3] [] τ := by
  intro n
  induction n with
  | zero => intro x1 x2 x3 τ hp _; exact False.elim hp
  | succ n ih =>
    intro x1 x2 x3 τ hp hq
    simp only [lo_X8_speedFor_27] at hp
    simp only [lf_X8_speedFor_27, lg_X8_speedFor_27] at hq
    refine rw_iload_n F dc_X8_speedFor_27 rfl ?_
    refine rw_if_lt (tgt := 65) F dc_X8_speedFor_28 rfl (fun c1 => ?_) (fun c1 => ?_)
    · rw [if_pos c1] at hp
      refine rw_aload_n F dc_X8_speedFor_65 rfl ?_
      refine rw_ldc F dc_X8_speedFor_66 kc_RX8_196 ?_
      refine rw_cVi F [_] dc_X8_speedFor_68 mv_X8_found ml_RX8_83 (by decide) (rc_8 (by first | rfl | assumption | decide | exact r73_k (by assumption) | exact fb_k (by assumption) | exact sb_k (by assumption) | exact tb_k (by assumption) | exact sb_li (by assumption) | exact sb_s (by assumption) | exact tb_n (by assumption) | exact fb_k (sb_f (by assumption)))) rfl rfl (Nat.le_of_ble_eq_true rfl) cn_X8_found ?_
      refine rw_iret F dc_X8_speedFor_71 rfl rfl ?_
      exact (by simpa only [if_pos c1] using hq)
    · rw [if_neg c1] at hp
      refine rw_aload_n F dc_X8_speedFor_31 rfl ?_
      refine rw_iload_n F dc_X8_speedFor_32 rfl ?_
      refine rw_iconst (v := 3) F dc_X8_speedFor_33 rfl ?_
      refine rw_iload_n F dc_X8_speedFor_34 rfl ?_
      refine rw_iload_n F dc_X8_speedFor_35 rfl ?_
      obtain ⟨hs2, hp⟩ := hp
      refine rw_cVi F [_, _, _, _] dc_X8_speedFor_36 mv_X8_strandedWith ml_RX8_222 (by decide) (rc_8 (by first | rfl | assumption | decide | exact r73_k (by assumption) | exact fb_k (by assumption) | exact sb_k (by assumption) | exact tb_k (by assumption) | exact sb_li (by assumption) | exact sb_s (by assumption) | exact tb_n (by assumption) | exact fb_k (sb_f (by assumption)))) rfl rfl (Nat.le_of_ble_eq_true rfl) (ct_X8_strandedWith hs2) ?_
      refine rw_aload_n F dc_X8_speedFor_39 rfl ?_
      refine rw_getR F dc_X8_speedFor_40 fl_RX8_12 (by first | rfl | assumption | decide | exact r73_k (by assumption) | exact fb_k (by assumption) | exact sb_k (by assumption) | exact tb_k (by assumption) | exact sb_li (by assumption) | exact sb_s (by assumption) | exact tb_n (by assumption) | exact fb_k (sb_f (by assumption))) (by first | rfl | assumption | exact lk6 (by assumption) _ | exact lk2 (by assumption) _ | exact fb_l0 (by assumption) | exact fb_l1 (by assumption) | exact sb_l0 (by assumption) | exact sb_l1 (by assumption) | exact sb_l2 (by assumption) | exact sb_l3 (by assumption) | exact tb_l0 (by assumption) | exact tb_l1 (by assumption) | exact tb_l2 (by assumption) | exact lk2 (sb_li (by assumption)) _ | exact fb_l0 (sb_f (by assumption)) | exact fb_l1 (sb_f (by assumption))) ?_
      refine rw_getR F dc_X8_speedFor_43 fl_RX8_101 (by first | rfl | assumption | decide | exact r73_k (by assumption) | exact fb_k (by assumption) | exact sb_k (by assumption) | exact tb_k (by assumption) | exact sb_li (by assumption) | exact sb_s (by assumption) | exact tb_n (by assumption) | exact fb_k (sb_f (by assumption))) (by first | rfl | assumption | exact lk6 (by assumption) _ | exact lk2 (by assumption) _ | exact fb_l0 (by assumption) | exact fb_l1 (by assumption) | exact sb_l0 (by assumption) | exact sb_l1 (by assumption) | exact sb_l2 (by assumption) | exact sb_l3 (by assumption) | exact tb_l0 (by assumption) | exact tb_l1 (by assumption) | exact tb_l2 (by assumption) | exact lk2 (sb_li (by assumption)) _ | exact fb_l0 (sb_f (by assumption)) | exact fb_l1 (sb_f (by assumption))) ?_
      refine rw_getR F dc_X8_speedFor_46 fl_RX8_123 (by first | rfl | assumption | decide | exact r73_k (by assumption) | exact fb_k (by assumption) | exact sb_k (by assumption) | exact tb_k (by assumption) | exact sb_li (by assumption) | exact sb_s (by assumption) | exact tb_n (by assumption) | exact fb_k (sb_f (by assumption))) (by first | rfl | assumption | exact lk6 (by assumption) _ | exact lk2 (by assumption) _ | exact fb_l0 (by assumption) | exact fb_l1 (by assumption) | exact sb_l0 (by assumption) | exact sb_l1 (by assumption) | exact sb_l2 (by assumption) | exact sb_l3 (by assumption) | exact tb_l0 (by assumption) | exact tb_l1 (by assumption) | exact tb_l2 (by assumption) | exact lk2 (sb_li (by assumption)) _ | exact fb_l0 (sb_f (by assumption)) | exact fb_l1 (sb_f (by assumption))) ?_
      refine rw_iload_n F dc_X8_speedFor_49 rfl ?_
      obtain ⟨hs3, hp⟩ := hp
      refine rw_aaShip F dc_X8_speedFor_50 (by first | assumption | exact (show _ ∈ tw_fbL by decide) | exact sb_f (by assumption)) hs3 (fun hk4 => ?_)
      refine rw_getI F dc_X8_speedFor_51 fl_RX8_189 (by first | rfl | assumption | decide | exact r73_k (by assumption) | exact fb_k (by assumption) | exact sb_k (by assumption) | exact tb_k (by assumption) | exact sb_li (by assumption) | exact sb_s (by assumption) | exact tb_n (by assumption) | exact fb_k (sb_f (by assumption))) (by first | rfl | assumption | exact lk6 (by assumption) _ | exact lk2 (by assumption) _ | exact fb_l0 (by assumption) | exact fb_l1 (by assumption) | exact sb_l0 (by assumption) | exact sb_l1 (by assumption) | exact sb_l2 (by assumption) | exact sb_l3 (by assumption) | exact tb_l0 (by assumption) | exact tb_l1 (by assumption) | exact tb_l2 (by assumption) | exact lk2 (sb_li (by assumption)) _ | exact fb_l0 (sb_f (by assumption)) | exact fb_l1 (sb_f (by assumption))) ?_
      refine rw_icmp_ne (tgt := 59) F dc_X8_speedFor_54 rfl (fun c5 => ?_) (fun c5 => ?_)
      · rw [if_neg c5] at hp
        refine rw_inc (n1 := (-1)) F dc_X8_speedFor_59 rfl rfl (by decide) rfl ?_
        refine rw_goto (tgt := 27) F dc_X8_speedFor_62 rfl ?_
        exact ih _ _ _ _ hp (by simpa only [if_neg c1, if_neg c5] using hq)
      · rw [if_pos c5] at hp
        refine rw_iload_n F dc_X8_speedFor_57 rfl ?_
        refine rw_iret F dc_X8_speedFor_58 rfl rfl ?_
        exact (by simpa only [if_neg c1, if_pos c5] using hq)
theorem cr_X8_speedFor {E : tw_E}  {N : Nat}  {x1 : Int32} {x2 : Int32} {τ : tw_T} (hp : p_X8_speedFor N x1 x2 τ)  : tw_Ci E 6 mX8_speedFor [.ref 0, .int x1, .int x2] τ (f_X8_speedFor N x1 x2 τ) (g_X8_speedFor N x1 x2 τ) := by
  unfold p_X8_speedFor at hp
  refine ct_of (by decide) (by simp [Value.category]) (Nat.le_of_ble_eq_true rfl) (fun K hE F => ?_)
  subst hE
  refine rw_aload_n F dc_X8_speedFor_0 rfl ?_
  refine rw_iload_n F dc_X8_speedFor_1 rfl ?_
  refine rw_cVi F [_] dc_X8_speedFor_2 mv_X8_isShip ml_RX8_119 (by decide) (rc_8 (by first | rfl | assumption | decide | exact r73_k (by assumption) | exact fb_k (by assumption) | exact sb_k (by assumption) | exact tb_k (by assumption) | exact sb_li (by assumption) | exact sb_s (by assumption) | exact tb_n (by assumption) | exact fb_k (sb_f (by assumption)))) rfl rfl (Nat.le_of_ble_eq_true rfl) ct_X8_isShip ?_
  refine rw_if_eq (tgt := 18) F dc_X8_speedFor_5 rfl (fun c1 => ?_) (fun c1 => ?_)
  · rw [if_pos c1] at hp
    refine rw_aload_n F dc_X8_speedFor_18 rfl ?_
    refine rw_ldc F dc_X8_speedFor_19 kc_RX8_82 ?_
    refine rw_cVi F [_] dc_X8_speedFor_21 mv_X8_found ml_RX8_83 (by decide) (rc_8 (by first | rfl | assumption | decide | exact r73_k (by assumption) | exact fb_k (by assumption) | exact sb_k (by assumption) | exact tb_k (by assumption) | exact sb_li (by assumption) | exact sb_s (by assumption) | exact tb_n (by assumption) | exact fb_k (sb_f (by assumption)))) rfl rfl (Nat.le_of_ble_eq_true rfl) cn_X8_found ?_
    refine rw_iret F dc_X8_speedFor_24 rfl rfl ?_
    exact ⟨by first | (simp only [f_X8_speedFor, g_X8_speedFor, if_pos c1]; done) | rfl | (simp only [f_X8_speedFor, g_X8_speedFor, if_pos c1]; rfl), by first | (simp only [f_X8_speedFor, g_X8_speedFor, if_pos c1]; done) | rfl | (simp only [f_X8_speedFor, g_X8_speedFor, if_pos c1]; rfl)⟩
  · rw [if_neg c1] at hp
    refine rw_iload_n F dc_X8_speedFor_8 rfl ?_
    refine rw_iconst (v := 0) F dc_X8_speedFor_9 rfl ?_
    refine rw_bipush (v := 60) F dc_X8_speedFor_10 rfl ?_
    refine rw_cSi F [_, _, _] dc_X8_speedFor_12 ms_X8_within ml_RX8_97 (by decide)  rfl rfl (Nat.le_of_ble_eq_true rfl) ct_X8_within ?_
    refine rw_if_ne (tgt := 25) F dc_X8_speedFor_15 rfl (fun c2 => ?_) (fun c2 => ?_)
    · rw [if_neg c2] at hp
      refine rw_iconst (v := 5) F dc_X8_speedFor_25 rfl ?_
      refine rw_istore_n F dc_X8_speedFor_26 (by decide) rfl ?_
      exact lp_X8_speedFor_27 F  N N _ _ _ _ hp ⟨by first | (simp only [f_X8_speedFor, g_X8_speedFor, if_neg c1, if_neg c2]; done) | rfl | (simp only [f_X8_speedFor, g_X8_speedFor, if_neg c1, if_neg c2]; rfl), by first | (simp only [f_X8_speedFor, g_X8_speedFor, if_neg c1, if_neg c2]; done) | rfl | (simp only [f_X8_speedFor, g_X8_speedFor, if_neg c1, if_neg c2]; rfl)⟩
    · rw [if_pos c2] at hp
      refine rw_aload_n F dc_X8_speedFor_18 rfl ?_
      refine rw_ldc F dc_X8_speedFor_19 kc_RX8_82 ?_
      refine rw_cVi F [_] dc_X8_speedFor_21 mv_X8_found ml_RX8_83 (by decide) (rc_8 (by first | rfl | assumption | decide | exact r73_k (by assumption) | exact fb_k (by assumption) | exact sb_k (by assumption) | exact tb_k (by assumption) | exact sb_li (by assumption) | exact sb_s (by assumption) | exact tb_n (by assumption) | exact fb_k (sb_f (by assumption)))) rfl rfl (Nat.le_of_ble_eq_true rfl) cn_X8_found ?_
      refine rw_iret F dc_X8_speedFor_24 rfl rfl ?_
      exact ⟨by first | (simp only [f_X8_speedFor, g_X8_speedFor, if_neg c1, if_pos c2]; done) | rfl | (simp only [f_X8_speedFor, g_X8_speedFor, if_neg c1, if_pos c2]; rfl), by first | (simp only [f_X8_speedFor, g_X8_speedFor, if_neg c1, if_pos c2]; done) | rfl | (simp only [f_X8_speedFor, g_X8_speedFor, if_neg c1, if_pos c2]; rfl)⟩
def lf_X8_lags_35 (N : Nat)  : Nat → Int32 → Int32 → Int32 → Int32 → tw_T → Int32
  | 0, _, _, _, _, _ => 0
  | n + 1, x1, x2, x3, x4, τ => if (23 : Int32) < x4 then x3 else (if (f_X8_secondShowsAs N (182 + 2 * x1.toNatClampNeg) 44 (tw_sr τ 44 (upd (τ 44) 1 x4))) = (0 : Int32) then (lf_X8_lags_35 N n x1 x2 x3 (x4 + 1) (tw_sr τ 44 (upd (τ 44) 1 x4))) else (lf_X8_lags_35 N n x1 x2 (x3 ||| ((1 : Int32) <<< (x4 &&& 31))) (x4 + 1) (tw_sr τ 44 (upd (τ 44) 1 x4))))
def lg_X8_lags_35 (N : Nat)  : Nat → Int32 → Int32 → Int32 → Int32 → tw_T → tw_T
  | 0, _, _, _, _, τ => τ
  | n + 1, x1, x2, x3, x4, τ => if (23 : Int32) < x4 then τ else (if (f_X8_secondShowsAs N (182 + 2 * x1.toNatClampNeg) 44 (tw_sr τ 44 (upd (τ 44) 1 x4))) = (0 : Int32) then (lg_X8_lags_35 N n x1 x2 x3 (x4 + 1) (tw_sr τ 44 (upd (τ 44) 1 x4))) else (lg_X8_lags_35 N n x1 x2 (x3 ||| ((1 : Int32) <<< (x4 &&& 31))) (x4 + 1) (tw_sr τ 44 (upd (τ 44) 1 x4))))
def lo_X8_lags_35 (N : Nat)  : Nat → Int32 → Int32 → Int32 → Int32 → tw_T → Prop
  | 0, _, _, _, _, _ => False
  | n + 1, x1, x2, x3, x4, τ => if (23 : Int32) < x4 then True else (vp_in x1 4 ∧ (p_X8_secondShowsAs N (182 + 2 * x1.toNatClampNeg) 44 (tw_sr τ 44 (upd (τ 44) 1 x4)) ∧ (if (f_X8_secondShowsAs N (182 + 2 * x1.toNatClampNeg) 44 (tw_sr τ 44 (upd (τ 44) 1 x4))) = (0 : Int32) then (lo_X8_lags_35 N n x1 x2 x3 (x4 + 1) (tw_sr τ 44 (upd (τ 44) 1 x4))) else (lo_X8_lags_35 N n x1 x2 (x3 ||| ((1 : Int32) <<< (x4 &&& 31))) (x4 + 1) (tw_sr τ 44 (upd (τ 44) 1 x4))))))
def f_X8_lags (N : Nat)  (x1 : Int32) (τ : tw_T) : Int32 := if (f_X8_troubleWith x1 τ) = (0 : Int32) then (lf_X8_lags_35 N N x1 (f_X8_troubleWith x1 τ) 0 0 (g_X2_take 44 2 τ)) else (f_X8_troubleWith x1 τ)
def g_X8_lags (N : Nat)  (x1 : Int32) (τ : tw_T) : tw_T := if (f_X8_troubleWith x1 τ) = (0 : Int32) then (lg_X8_lags_35 N N x1 (f_X8_troubleWith x1 τ) 0 0 (g_X2_take 44 2 τ)) else (g_X8_found (f_X8_troubleWith x1 τ) τ)
def p_X8_lags (N : Nat)  (x1 : Int32) (τ : tw_T) : Prop := p_X8_troubleWith x1 τ ∧ (if (f_X8_troubleWith x1 τ) = (0 : Int32) then (lo_X8_lags_35 N N x1 (f_X8_troubleWith x1 τ) 0 0 (g_X2_take 44 2 τ)) else True)
theorem lp_X8_lags_35 {K : tw_K} {Q : Option Value → tw_T → Prop} (F : tw_F K mX8_lags 6 Q)   (N : Nat)  : ∀ (n : Nat) (x1 : Int32) (x2 : Int32) (x3 : Int32) (x4 : Int32) (τ : tw_T), lo_X8_lags_35 N n x1 x2 x3 x4 τ → Q (some (.int (lf_X8_lags_35 N n x1 x2 x3 x4 τ))) (lg_X8_lags_35 N n x1 x2 x3 x4 τ) → tw_R K 35 [.ref 0, .int x1, .int x2, .int x3, .int x4] [] τ := by
  intro n
  induction n with
  | zero => intro x1 x2 x3 x4 τ hp _; exact False.elim hp
  | succ n ih =>
    intro x1 x2 x3 x4 τ hp hq
    simp only [lo_X8_lags_35] at hp
    simp only [lf_X8_lags_35, lg_X8_lags_35] at hq
    refine rw_iload F dc_X8_lags_35 rfl ?_
    refine rw_bipush (v := 23) F dc_X8_lags_37 rfl ?_
    refine rw_icmp_gt (tgt := 80) F dc_X8_lags_39 rfl (fun c1 => ?_) (fun c1 => ?_)
    · rw [if_pos c1] at hp
      refine rw_iload_n F dc_X8_lags_80 rfl ?_
      refine rw_iret F dc_X8_lags_81 rfl rfl ?_
      exact (by simpa only [if_pos c1] using hq)
    · rw [if_neg c1] at hp
      refine rw_aload_n F dc_X8_lags_42 rfl ?_
      refine rw_getR F dc_X8_lags_43 fl_RX8_46 (by first | rfl | assumption | decide | exact r73_k (by assumption) | exact fb_k (by assumption) | exact sb_k (by assumption) | exact tb_k (by assumption) | exact sb_li (by assumption) | exact sb_s (by assumption) | exact tb_n (by assumption) | exact fb_k (sb_f (by assumption))) (by first | rfl | assumption | exact lk6 (by assumption) _ | exact lk2 (by assumption) _ | exact fb_l0 (by assumption) | exact fb_l1 (by assumption) | exact sb_l0 (by assumption) | exact sb_l1 (by assumption) | exact sb_l2 (by assumption) | exact sb_l3 (by assumption) | exact tb_l0 (by assumption) | exact tb_l1 (by assumption) | exact tb_l2 (by assumption) | exact lk2 (sb_li (by assumption)) _ | exact fb_l0 (sb_f (by assumption)) | exact fb_l1 (sb_f (by assumption))) ?_
      refine rw_iload F dc_X8_lags_46 rfl ?_
      refine rw_put F dc_X8_lags_48 pf_RX8_207 (by first | rfl | assumption | decide | exact r73_k (by assumption) | exact fb_k (by assumption) | exact sb_k (by assumption) | exact tb_k (by assumption) | exact sb_li (by assumption) | exact sb_s (by assumption) | exact tb_n (by assumption) | exact fb_k (sb_f (by assumption))) (by first | rfl | assumption | exact lk6 (by assumption) _ | exact lk2 (by assumption) _ | exact fb_l0 (by assumption) | exact fb_l1 (by assumption) | exact sb_l0 (by assumption) | exact sb_l1 (by assumption) | exact sb_l2 (by assumption) | exact sb_l3 (by assumption) | exact tb_l0 (by assumption) | exact tb_l1 (by assumption) | exact tb_l2 (by assumption) | exact lk2 (sb_li (by assumption)) _ | exact fb_l0 (sb_f (by assumption)) | exact fb_l1 (sb_f (by assumption))) rfl rfl ?_
      refine rw_aload_n F dc_X8_lags_51 rfl ?_
      refine rw_getR F dc_X8_lags_52 fl_RX8_32 (by first | rfl | assumption | decide | exact r73_k (by assumption) | exact fb_k (by assumption) | exact sb_k (by assumption) | exact tb_k (by assumption) | exact sb_li (by assumption) | exact sb_s (by assumption) | exact tb_n (by assumption) | exact fb_k (sb_f (by assumption))) (by first | rfl | assumption | exact lk6 (by assumption) _ | exact lk2 (by assumption) _ | exact fb_l0 (by assumption) | exact fb_l1 (by assumption) | exact sb_l0 (by assumption) | exact sb_l1 (by assumption) | exact sb_l2 (by assumption) | exact sb_l3 (by assumption) | exact tb_l0 (by assumption) | exact tb_l1 (by assumption) | exact tb_l2 (by assumption) | exact lk2 (sb_li (by assumption)) _ | exact fb_l0 (sb_f (by assumption)) | exact fb_l1 (sb_f (by assumption))) ?_
      refine rw_iload_n F dc_X8_lags_55 rfl ?_
      obtain ⟨hs2, hp⟩ := hp
      refine rw_aaSheet F dc_X8_lags_56 hs2 (fun hk3 => ?_)
      refine rw_aload_n F dc_X8_lags_57 rfl ?_
      refine rw_getR F dc_X8_lags_58 fl_RX8_46 (by first | rfl | assumption | decide | exact r73_k (by assumption) | exact fb_k (by assumption) | exact sb_k (by assumption) | exact tb_k (by assumption) | exact sb_li (by assumption) | exact sb_s (by assumption) | exact tb_n (by assumption) | exact fb_k (sb_f (by assumption))) (by first | rfl | assumption | exact lk6 (by assumption) _ | exact lk2 (by assumption) _ | exact fb_l0 (by assumption) | exact fb_l1 (by assumption) | exact sb_l0 (by assumption) | exact sb_l1 (by assumption) | exact sb_l2 (by assumption) | exact sb_l3 (by assumption) | exact tb_l0 (by assumption) | exact tb_l1 (by assumption) | exact tb_l2 (by assumption) | exact lk2 (sb_li (by assumption)) _ | exact fb_l0 (sb_f (by assumption)) | exact fb_l1 (sb_f (by assumption))) ?_
      obtain ⟨hs4, hp⟩ := hp
      refine rw_cSi F [_, _] dc_X8_lags_61 ms_X8_secondShowsAs ml_RX8_231 (by decide)  rfl rfl (Nat.le_of_ble_eq_true rfl) (cr_X8_secondShowsAs hs4) ?_
      refine rw_if_eq (tgt := 74) F dc_X8_lags_64 rfl (fun c5 => ?_) (fun c5 => ?_)
      · rw [if_pos c5] at hp
        refine rw_inc (n1 := 1) F dc_X8_lags_74 rfl rfl (by decide) rfl ?_
        refine rw_goto (tgt := 35) F dc_X8_lags_77 rfl ?_
        exact ih _ _ _ _ _ hp (by simpa only [if_neg c1, if_pos c5] using hq)
      · rw [if_neg c5] at hp
        refine rw_iload_n F dc_X8_lags_67 rfl ?_
        refine rw_iconst (v := 1) F dc_X8_lags_68 rfl ?_
        refine rw_iload F dc_X8_lags_69 rfl ?_
        refine rw_ishl F dc_X8_lags_71 ?_
        refine rw_ior F dc_X8_lags_72 ?_
        refine rw_istore_n F dc_X8_lags_73 (by decide) rfl ?_
        refine rw_inc (n1 := 1) F dc_X8_lags_74 rfl rfl (by decide) rfl ?_
        refine rw_goto (tgt := 35) F dc_X8_lags_77 rfl ?_
        exact ih _ _ _ _ _ hp (by simpa only [if_neg c1, if_neg c5] using hq)
theorem cr_X8_lags {E : tw_E}  {N : Nat}  {x1 : Int32} {τ : tw_T} (hp : p_X8_lags N x1 τ)  : tw_Ci E 6 mX8_lags [.ref 0, .int x1] τ (f_X8_lags N x1 τ) (g_X8_lags N x1 τ) := by
  unfold p_X8_lags at hp
  refine ct_of (by decide) (by simp [Value.category]) (Nat.le_of_ble_eq_true rfl) (fun K hE F => ?_)
  subst hE
  refine rw_aload_n F dc_X8_lags_0 rfl ?_
  refine rw_iload_n F dc_X8_lags_1 rfl ?_
  obtain ⟨hs1, hp⟩ := hp
  refine rw_cVi F [_] dc_X8_lags_2 mv_X8_troubleWith ml_RX8_228 (by decide) (rc_8 (by first | rfl | assumption | decide | exact r73_k (by assumption) | exact fb_k (by assumption) | exact sb_k (by assumption) | exact tb_k (by assumption) | exact sb_li (by assumption) | exact sb_s (by assumption) | exact tb_n (by assumption) | exact fb_k (sb_f (by assumption)))) rfl rfl (Nat.le_of_ble_eq_true rfl) (ct_X8_troubleWith hs1) ?_
  refine rw_istore_n F dc_X8_lags_5 (by decide) rfl ?_
  refine rw_iload_n F dc_X8_lags_6 rfl ?_
  refine rw_if_eq (tgt := 16) F dc_X8_lags_7 rfl (fun c2 => ?_) (fun c2 => ?_)
  · rw [if_pos c2] at hp
    refine rw_aload_n F dc_X8_lags_16 rfl ?_
    refine rw_getR F dc_X8_lags_17 fl_RX8_46 (by first | rfl | assumption | decide | exact r73_k (by assumption) | exact fb_k (by assumption) | exact sb_k (by assumption) | exact tb_k (by assumption) | exact sb_li (by assumption) | exact sb_s (by assumption) | exact tb_n (by assumption) | exact fb_k (sb_f (by assumption))) (by first | rfl | assumption | exact lk6 (by assumption) _ | exact lk2 (by assumption) _ | exact fb_l0 (by assumption) | exact fb_l1 (by assumption) | exact sb_l0 (by assumption) | exact sb_l1 (by assumption) | exact sb_l2 (by assumption) | exact sb_l3 (by assumption) | exact tb_l0 (by assumption) | exact tb_l1 (by assumption) | exact tb_l2 (by assumption) | exact lk2 (sb_li (by assumption)) _ | exact fb_l0 (sb_f (by assumption)) | exact fb_l1 (sb_f (by assumption))) ?_
    refine rw_aload_n F dc_X8_lags_20 rfl ?_
    refine rw_getR F dc_X8_lags_21 fl_RX8_12 (by first | rfl | assumption | decide | exact r73_k (by assumption) | exact fb_k (by assumption) | exact sb_k (by assumption) | exact tb_k (by assumption) | exact sb_li (by assumption) | exact sb_s (by assumption) | exact tb_n (by assumption) | exact fb_k (sb_f (by assumption))) (by first | rfl | assumption | exact lk6 (by assumption) _ | exact lk2 (by assumption) _ | exact fb_l0 (by assumption) | exact fb_l1 (by assumption) | exact sb_l0 (by assumption) | exact sb_l1 (by assumption) | exact sb_l2 (by assumption) | exact sb_l3 (by assumption) | exact tb_l0 (by assumption) | exact tb_l1 (by assumption) | exact tb_l2 (by assumption) | exact lk2 (sb_li (by assumption)) _ | exact fb_l0 (sb_f (by assumption)) | exact fb_l1 (sb_f (by assumption))) ?_
    refine rw_getR F dc_X8_lags_24 fl_RX8_87 (by first | rfl | assumption | decide | exact r73_k (by assumption) | exact fb_k (by assumption) | exact sb_k (by assumption) | exact tb_k (by assumption) | exact sb_li (by assumption) | exact sb_s (by assumption) | exact tb_n (by assumption) | exact fb_k (sb_f (by assumption))) (by first | rfl | assumption | exact lk6 (by assumption) _ | exact lk2 (by assumption) _ | exact fb_l0 (by assumption) | exact fb_l1 (by assumption) | exact sb_l0 (by assumption) | exact sb_l1 (by assumption) | exact sb_l2 (by assumption) | exact sb_l3 (by assumption) | exact tb_l0 (by assumption) | exact tb_l1 (by assumption) | exact tb_l2 (by assumption) | exact lk2 (sb_li (by assumption)) _ | exact fb_l0 (sb_f (by assumption)) | exact fb_l1 (sb_f (by assumption))) ?_
    refine rw_cVv F [_] dc_X8_lags_27 mv_X2_take ml_RX8_203 (by decide) (rc_2 (by first | rfl | assumption | decide | exact r73_k (by assumption) | exact fb_k (by assumption) | exact sb_k (by assumption) | exact tb_k (by assumption) | exact sb_li (by assumption) | exact sb_s (by assumption) | exact tb_n (by assumption) | exact fb_k (sb_f (by assumption)))) rfl rfl (Nat.le_of_ble_eq_true rfl) ct_X2_take ?_
    refine rw_iconst (v := 0) F dc_X8_lags_30 rfl ?_
    refine rw_istore_n F dc_X8_lags_31 (by decide) rfl ?_
    refine rw_iconst (v := 0) F dc_X8_lags_32 rfl ?_
    refine rw_istore F dc_X8_lags_33 (by decide) rfl ?_
    exact lp_X8_lags_35 F  N N _ _ _ _ _ hp ⟨by first | (simp only [f_X8_lags, g_X8_lags, if_pos c2]; done) | rfl | (simp only [f_X8_lags, g_X8_lags, if_pos c2]; rfl), by first | (simp only [f_X8_lags, g_X8_lags, if_pos c2]; done) | rfl | (simp only [f_X8_lags, g_X8_lags, if_pos c2]; rfl)⟩
  · rw [if_neg c2] at hp
    refine rw_aload_n F dc_X8_lags_10 rfl ?_
    refine rw_iload_n F dc_X8_lags_11 rfl ?_
    refine rw_cVi F [_] dc_X8_lags_12 mv_X8_found ml_RX8_83 (by decide) (rc_8 (by first | rfl | assumption | decide | exact r73_k (by assumption) | exact fb_k (by assumption) | exact sb_k (by assumption) | exact tb_k (by assumption) | exact sb_li (by assumption) | exact sb_s (by assumption) | exact tb_n (by assumption) | exact fb_k (sb_f (by assumption)))) rfl rfl (Nat.le_of_ble_eq_true rfl) cn_X8_found ?_
    refine rw_iret F dc_X8_lags_15 rfl rfl ?_
    exact ⟨by first | (simp only [f_X8_lags, g_X8_lags, if_neg c2]; done) | rfl | (simp only [f_X8_lags, g_X8_lags, if_neg c2]; rfl), by first | (simp only [f_X8_lags, g_X8_lags, if_neg c2]; done) | rfl | (simp only [f_X8_lags, g_X8_lags, if_neg c2]; rfl)⟩
def lf_X8_kinds_37 (N : Nat)  : Nat → Int32 → Int32 → Int32 → Int32 → Int32 → tw_T → Int32
  | 0, _, _, _, _, _, _ => 0
  | n + 1, x1, x2, x3, x4, x5, τ => if (6 : Int32) < x5 then x4 else (if (f_X8_sailsAs N (182 + 2 * x1.toNatClampNeg) 45 (tw_sr (g_X6_take 45 (3 + 2 + x2.toNatClampNeg) τ) 45 (upd ((g_X6_take 45 (3 + 2 + x2.toNatClampNeg) τ) 45) 0 x5))) = (0 : Int32) then (lf_X8_kinds_37 N n x1 x2 x3 x4 (x5 + 1) (g_X8_sailsAs N (182 + 2 * x1.toNatClampNeg) 45 (tw_sr (g_X6_take 45 (3 + 2 + x2.toNatClampNeg) τ) 45 (upd ((g_X6_take 45 (3 + 2 + x2.toNatClampNeg) τ) 45) 0 x5)))) else (lf_X8_kinds_37 N n x1 x2 x3 (x4 ||| ((1 : Int32) <<< (x5 &&& 31))) (x5 + 1) (g_X8_sailsAs N (182 + 2 * x1.toNatClampNeg) 45 (tw_sr (g_X6_take 45 (3 + 2 + x2.toNatClampNeg) τ) 45 (upd ((g_X6_take 45 (3 + 2 + x2.toNatClampNeg) τ) 45) 0 x5)))))
def lg_X8_kinds_37 (N : Nat)  : Nat → Int32 → Int32 → Int32 → Int32 → Int32 → tw_T → tw_T
  | 0, _, _, _, _, _, τ => τ
  | n + 1, x1, x2, x3, x4, x5, τ => if (6 : Int32) < x5 then τ else (if (f_X8_sailsAs N (182 + 2 * x1.toNatClampNeg) 45 (tw_sr (g_X6_take 45 (3 + 2 + x2.toNatClampNeg) τ) 45 (upd ((g_X6_take 45 (3 + 2 + x2.toNatClampNeg) τ) 45) 0 x5))) = (0 : Int32) then (lg_X8_kinds_37 N n x1 x2 x3 x4 (x5 + 1) (g_X8_sailsAs N (182 + 2 * x1.toNatClampNeg) 45 (tw_sr (g_X6_take 45 (3 + 2 + x2.toNatClampNeg) τ) 45 (upd ((g_X6_take 45 (3 + 2 + x2.toNatClampNeg) τ) 45) 0 x5)))) else (lg_X8_kinds_37 N n x1 x2 x3 (x4 ||| ((1 : Int32) <<< (x5 &&& 31))) (x5 + 1) (g_X8_sailsAs N (182 + 2 * x1.toNatClampNeg) 45 (tw_sr (g_X6_take 45 (3 + 2 + x2.toNatClampNeg) τ) 45 (upd ((g_X6_take 45 (3 + 2 + x2.toNatClampNeg) τ) 45) 0 x5)))))
def lo_X8_kinds_37 (N : Nat)  : Nat → Int32 → Int32 → Int32 → Int32 → Int32 → tw_T → Prop
  | 0, _, _, _, _, _, _ => False
  | n + 1, x1, x2, x3, x4, x5, τ => if (6 : Int32) < x5 then True else (vp_in x2 8 ∧ (vp_in x1 4 ∧ (p_X8_sailsAs N (182 + 2 * x1.toNatClampNeg) 45 (tw_sr (g_X6_take 45 (3 + 2 + x2.toNatClampNeg) τ) 45 (upd ((g_X6_take 45 (3 + 2 + x2.toNatClampNeg) τ) 45) 0 x5)) ∧ (if (f_X8_sailsAs N (182 + 2 * x1.toNatClampNeg) 45 (tw_sr (g_X6_take 45 (3 + 2 + x2.toNatClampNeg) τ) 45 (upd ((g_X6_take 45 (3 + 2 + x2.toNatClampNeg) τ) 45) 0 x5))) = (0 : Int32) then (lo_X8_kinds_37 N n x1 x2 x3 x4 (x5 + 1) (g_X8_sailsAs N (182 + 2 * x1.toNatClampNeg) 45 (tw_sr (g_X6_take 45 (3 + 2 + x2.toNatClampNeg) τ) 45 (upd ((g_X6_take 45 (3 + 2 + x2.toNatClampNeg) τ) 45) 0 x5)))) else (lo_X8_kinds_37 N n x1 x2 x3 (x4 ||| ((1 : Int32) <<< (x5 &&& 31))) (x5 + 1) (g_X8_sailsAs N (182 + 2 * x1.toNatClampNeg) 45 (tw_sr (g_X6_take 45 (3 + 2 + x2.toNatClampNeg) τ) 45 (upd ((g_X6_take 45 (3 + 2 + x2.toNatClampNeg) τ) 45) 0 x5))))))))
def f_X8_kinds (N : Nat)  (x1 : Int32) (x2 : Int32) (τ : tw_T) : Int32 := if (f_X8_troubleWith x1 τ) = (0 : Int32) then (if (f_X8_isShip x2 τ) = (0 : Int32) then ((-1000001)) else (lf_X8_kinds_37 N N x1 x2 (f_X8_troubleWith x1 τ) 0 0 τ)) else (f_X8_troubleWith x1 τ)
def g_X8_kinds (N : Nat)  (x1 : Int32) (x2 : Int32) (τ : tw_T) : tw_T := if (f_X8_troubleWith x1 τ) = (0 : Int32) then (if (f_X8_isShip x2 τ) = (0 : Int32) then (g_X8_found ((-1000001)) τ) else (lg_X8_kinds_37 N N x1 x2 (f_X8_troubleWith x1 τ) 0 0 τ)) else (g_X8_found (f_X8_troubleWith x1 τ) τ)
def p_X8_kinds (N : Nat)  (x1 : Int32) (x2 : Int32) (τ : tw_T) : Prop := p_X8_troubleWith x1 τ ∧ (if (f_X8_troubleWith x1 τ) = (0 : Int32) then (if (f_X8_isShip x2 τ) = (0 : Int32) then True else (lo_X8_kinds_37 N N x1 x2 (f_X8_troubleWith x1 τ) 0 0 τ)) else True)
theorem lp_X8_kinds_37 {K : tw_K} {Q : Option Value → tw_T → Prop} (F : tw_F K mX8_kinds 6 Q)   (N : Nat)  : ∀ (n : Nat) (x1 : Int32) (x2 : Int32) (x3 : Int32) (x4 : Int32) (x5 : Int32) (τ : tw_T), lo_X8_kinds_37 N n x1 x2 x3 x4 x5 τ → Q (some (.int (lf_X8_kinds_37 N n x1 x2 x3 x4 x5 τ))) (lg_X8_kinds_37 N n x1 x2 x3 x4 x5 τ) → tw_R K 37 [.ref 0, .int x1, .int x2, .int x3, .int x4, .int x5] [] τ := by
  intro n
  induction n with
  | zero => intro x1 x2 x3 x4 x5 τ hp _; exact False.elim hp
  | succ n ih =>
    intro x1 x2 x3 x4 x5 τ hp hq
    simp only [lo_X8_kinds_37] at hp
    simp only [lf_X8_kinds_37, lg_X8_kinds_37] at hq
    refine rw_iload F dc_X8_kinds_37 rfl ?_
    refine rw_bipush (v := 6) F dc_X8_kinds_39 rfl ?_
    refine rw_icmp_gt (tgt := 104) F dc_X8_kinds_41 rfl (fun c1 => ?_) (fun c1 => ?_)
    · rw [if_pos c1] at hp
      refine rw_iload F dc_X8_kinds_104 rfl ?_
      refine rw_iret F dc_X8_kinds_106 rfl rfl ?_
      exact (by simpa only [if_pos c1] using hq)
    · rw [if_neg c1] at hp
      refine rw_aload_n F dc_X8_kinds_44 rfl ?_
      refine rw_getR F dc_X8_kinds_45 fl_RX8_53 (by first | rfl | assumption | decide | exact r73_k (by assumption) | exact fb_k (by assumption) | exact sb_k (by assumption) | exact tb_k (by assumption) | exact sb_li (by assumption) | exact sb_s (by assumption) | exact tb_n (by assumption) | exact fb_k (sb_f (by assumption))) (by first | rfl | assumption | exact lk6 (by assumption) _ | exact lk2 (by assumption) _ | exact fb_l0 (by assumption) | exact fb_l1 (by assumption) | exact sb_l0 (by assumption) | exact sb_l1 (by assumption) | exact sb_l2 (by assumption) | exact sb_l3 (by assumption) | exact tb_l0 (by assumption) | exact tb_l1 (by assumption) | exact tb_l2 (by assumption) | exact lk2 (sb_li (by assumption)) _ | exact fb_l0 (sb_f (by assumption)) | exact fb_l1 (sb_f (by assumption))) ?_
      refine rw_aload_n F dc_X8_kinds_48 rfl ?_
      refine rw_getR F dc_X8_kinds_49 fl_RX8_12 (by first | rfl | assumption | decide | exact r73_k (by assumption) | exact fb_k (by assumption) | exact sb_k (by assumption) | exact tb_k (by assumption) | exact sb_li (by assumption) | exact sb_s (by assumption) | exact tb_n (by assumption) | exact fb_k (sb_f (by assumption))) (by first | rfl | assumption | exact lk6 (by assumption) _ | exact lk2 (by assumption) _ | exact fb_l0 (by assumption) | exact fb_l1 (by assumption) | exact sb_l0 (by assumption) | exact sb_l1 (by assumption) | exact sb_l2 (by assumption) | exact sb_l3 (by assumption) | exact tb_l0 (by assumption) | exact tb_l1 (by assumption) | exact tb_l2 (by assumption) | exact lk2 (sb_li (by assumption)) _ | exact fb_l0 (sb_f (by assumption)) | exact fb_l1 (sb_f (by assumption))) ?_
      refine rw_getR F dc_X8_kinds_52 fl_RX8_101 (by first | rfl | assumption | decide | exact r73_k (by assumption) | exact fb_k (by assumption) | exact sb_k (by assumption) | exact tb_k (by assumption) | exact sb_li (by assumption) | exact sb_s (by assumption) | exact tb_n (by assumption) | exact fb_k (sb_f (by assumption))) (by first | rfl | assumption | exact lk6 (by assumption) _ | exact lk2 (by assumption) _ | exact fb_l0 (by assumption) | exact fb_l1 (by assumption) | exact sb_l0 (by assumption) | exact sb_l1 (by assumption) | exact sb_l2 (by assumption) | exact sb_l3 (by assumption) | exact tb_l0 (by assumption) | exact tb_l1 (by assumption) | exact tb_l2 (by assumption) | exact lk2 (sb_li (by assumption)) _ | exact fb_l0 (sb_f (by assumption)) | exact fb_l1 (sb_f (by assumption))) ?_
      refine rw_getR F dc_X8_kinds_55 fl_RX8_123 (by first | rfl | assumption | decide | exact r73_k (by assumption) | exact fb_k (by assumption) | exact sb_k (by assumption) | exact tb_k (by assumption) | exact sb_li (by assumption) | exact sb_s (by assumption) | exact tb_n (by assumption) | exact fb_k (sb_f (by assumption))) (by first | rfl | assumption | exact lk6 (by assumption) _ | exact lk2 (by assumption) _ | exact fb_l0 (by assumption) | exact fb_l1 (by assumption) | exact sb_l0 (by assumption) | exact sb_l1 (by assumption) | exact sb_l2 (by assumption) | exact sb_l3 (by assumption) | exact tb_l0 (by assumption) | exact tb_l1 (by assumption) | exact tb_l2 (by assumption) | exact lk2 (sb_li (by assumption)) _ | exact fb_l0 (sb_f (by assumption)) | exact fb_l1 (sb_f (by assumption))) ?_
      refine rw_iload_n F dc_X8_kinds_58 rfl ?_
      obtain ⟨hs2, hp⟩ := hp
      refine rw_aaShip F dc_X8_kinds_59 (by first | assumption | exact (show _ ∈ tw_fbL by decide) | exact sb_f (by assumption)) hs2 (fun hk3 => ?_)
      refine rw_cVv F [_] dc_X8_kinds_60 mv_X6_take ml_RX8_175 (by decide) (rc_6 (by first | rfl | assumption | decide | exact r73_k (by assumption) | exact fb_k (by assumption) | exact sb_k (by assumption) | exact tb_k (by assumption) | exact sb_li (by assumption) | exact sb_s (by assumption) | exact tb_n (by assumption) | exact fb_k (sb_f (by assumption)))) rfl rfl (Nat.le_of_ble_eq_true rfl) ct_X6_take ?_
      refine rw_aload_n F dc_X8_kinds_63 rfl ?_
      refine rw_getR F dc_X8_kinds_64 fl_RX8_53 (by first | rfl | assumption | decide | exact r73_k (by assumption) | exact fb_k (by assumption) | exact sb_k (by assumption) | exact tb_k (by assumption) | exact sb_li (by assumption) | exact sb_s (by assumption) | exact tb_n (by assumption) | exact fb_k (sb_f (by assumption))) (by first | rfl | assumption | exact lk6 (by assumption) _ | exact lk2 (by assumption) _ | exact fb_l0 (by assumption) | exact fb_l1 (by assumption) | exact sb_l0 (by assumption) | exact sb_l1 (by assumption) | exact sb_l2 (by assumption) | exact sb_l3 (by assumption) | exact tb_l0 (by assumption) | exact tb_l1 (by assumption) | exact tb_l2 (by assumption) | exact lk2 (sb_li (by assumption)) _ | exact fb_l0 (sb_f (by assumption)) | exact fb_l1 (sb_f (by assumption))) ?_
      refine rw_iload F dc_X8_kinds_67 rfl ?_
      refine rw_put F dc_X8_kinds_69 pf_RX8_248 (by first | rfl | assumption | decide | exact r73_k (by assumption) | exact fb_k (by assumption) | exact sb_k (by assumption) | exact tb_k (by assumption) | exact sb_li (by assumption) | exact sb_s (by assumption) | exact tb_n (by assumption) | exact fb_k (sb_f (by assumption))) (by first | rfl | assumption | exact lk6 (by assumption) _ | exact lk2 (by assumption) _ | exact fb_l0 (by assumption) | exact fb_l1 (by assumption) | exact sb_l0 (by assumption) | exact sb_l1 (by assumption) | exact sb_l2 (by assumption) | exact sb_l3 (by assumption) | exact tb_l0 (by assumption) | exact tb_l1 (by assumption) | exact tb_l2 (by assumption) | exact lk2 (sb_li (by assumption)) _ | exact fb_l0 (sb_f (by assumption)) | exact fb_l1 (sb_f (by assumption))) rfl rfl ?_
      refine rw_aload_n F dc_X8_kinds_72 rfl ?_
      refine rw_aload_n F dc_X8_kinds_73 rfl ?_
      refine rw_getR F dc_X8_kinds_74 fl_RX8_32 (by first | rfl | assumption | decide | exact r73_k (by assumption) | exact fb_k (by assumption) | exact sb_k (by assumption) | exact tb_k (by assumption) | exact sb_li (by assumption) | exact sb_s (by assumption) | exact tb_n (by assumption) | exact fb_k (sb_f (by assumption))) (by first | rfl | assumption | exact lk6 (by assumption) _ | exact lk2 (by assumption) _ | exact fb_l0 (by assumption) | exact fb_l1 (by assumption) | exact sb_l0 (by assumption) | exact sb_l1 (by assumption) | exact sb_l2 (by assumption) | exact sb_l3 (by assumption) | exact tb_l0 (by assumption) | exact tb_l1 (by assumption) | exact tb_l2 (by assumption) | exact lk2 (sb_li (by assumption)) _ | exact fb_l0 (sb_f (by assumption)) | exact fb_l1 (sb_f (by assumption))) ?_
      refine rw_iload_n F dc_X8_kinds_77 rfl ?_
      obtain ⟨hs4, hp⟩ := hp
      refine rw_aaSheet F dc_X8_kinds_78 hs4 (fun hk5 => ?_)
      refine rw_aload_n F dc_X8_kinds_79 rfl ?_
      refine rw_getR F dc_X8_kinds_80 fl_RX8_53 (by first | rfl | assumption | decide | exact r73_k (by assumption) | exact fb_k (by assumption) | exact sb_k (by assumption) | exact tb_k (by assumption) | exact sb_li (by assumption) | exact sb_s (by assumption) | exact tb_n (by assumption) | exact fb_k (sb_f (by assumption))) (by first | rfl | assumption | exact lk6 (by assumption) _ | exact lk2 (by assumption) _ | exact fb_l0 (by assumption) | exact fb_l1 (by assumption) | exact sb_l0 (by assumption) | exact sb_l1 (by assumption) | exact sb_l2 (by assumption) | exact sb_l3 (by assumption) | exact tb_l0 (by assumption) | exact tb_l1 (by assumption) | exact tb_l2 (by assumption) | exact lk2 (sb_li (by assumption)) _ | exact fb_l0 (sb_f (by assumption)) | exact fb_l1 (sb_f (by assumption))) ?_
      obtain ⟨hs6, hp⟩ := hp
      refine rw_cVi F [_, _] dc_X8_kinds_83 mv_X8_sailsAs ml_RX8_251 (by decide) (rc_8 (by first | rfl | assumption | decide | exact r73_k (by assumption) | exact fb_k (by assumption) | exact sb_k (by assumption) | exact tb_k (by assumption) | exact sb_li (by assumption) | exact sb_s (by assumption) | exact tb_n (by assumption) | exact fb_k (sb_f (by assumption)))) rfl rfl (Nat.le_of_ble_eq_true rfl) (cr_X8_sailsAs hs6) ?_
      refine rw_if_eq (tgt := 98) F dc_X8_kinds_86 rfl (fun c7 => ?_) (fun c7 => ?_)
      · rw [if_pos c7] at hp
        refine rw_inc (n1 := 1) F dc_X8_kinds_98 rfl rfl (by decide) rfl ?_
        refine rw_goto (tgt := 37) F dc_X8_kinds_101 rfl ?_
        exact ih _ _ _ _ _ _ hp (by simpa only [if_neg c1, if_pos c7] using hq)
      · rw [if_neg c7] at hp
        refine rw_iload F dc_X8_kinds_89 rfl ?_
        refine rw_iconst (v := 1) F dc_X8_kinds_91 rfl ?_
        refine rw_iload F dc_X8_kinds_92 rfl ?_
        refine rw_ishl F dc_X8_kinds_94 ?_
        refine rw_ior F dc_X8_kinds_95 ?_
        refine rw_istore F dc_X8_kinds_96 (by decide) rfl ?_
        refine rw_inc (n1 := 1) F dc_X8_kinds_98 rfl rfl (by decide) rfl ?_
        refine rw_goto (tgt := 37) F dc_X8_kinds_101 rfl ?_
        exact ih _ _ _ _ _ _ hp (by simpa only [if_neg c1, if_neg c7] using hq)
theorem cr_X8_kinds {E : tw_E}  {N : Nat}  {x1 : Int32} {x2 : Int32} {τ : tw_T} (hp : p_X8_kinds N x1 x2 τ)  : tw_Ci E 6 mX8_kinds [.ref 0, .int x1, .int x2] τ (f_X8_kinds N x1 x2 τ) (g_X8_kinds N x1 x2 τ) := by
  unfold p_X8_kinds at hp
  refine ct_of (by decide) (by simp [Value.category]) (Nat.le_of_ble_eq_true rfl) (fun K hE F => ?_)
  subst hE
  refine rw_aload_n F dc_X8_kinds_0 rfl ?_
  refine rw_iload_n F dc_X8_kinds_1 rfl ?_
  obtain ⟨hs1, hp⟩ := hp
  refine rw_cVi F [_] dc_X8_kinds_2 mv_X8_troubleWith ml_RX8_228 (by decide) (rc_8 (by first | rfl | assumption | decide | exact r73_k (by assumption) | exact fb_k (by assumption) | exact sb_k (by assumption) | exact tb_k (by assumption) | exact sb_li (by assumption) | exact sb_s (by assumption) | exact tb_n (by assumption) | exact fb_k (sb_f (by assumption)))) rfl rfl (Nat.le_of_ble_eq_true rfl) (ct_X8_troubleWith hs1) ?_
  refine rw_istore_n F dc_X8_kinds_5 (by decide) rfl ?_
  refine rw_iload_n F dc_X8_kinds_6 rfl ?_
  refine rw_if_eq (tgt := 16) F dc_X8_kinds_7 rfl (fun c2 => ?_) (fun c2 => ?_)
  · rw [if_pos c2] at hp
    refine rw_aload_n F dc_X8_kinds_16 rfl ?_
    refine rw_iload_n F dc_X8_kinds_17 rfl ?_
    refine rw_cVi F [_] dc_X8_kinds_18 mv_X8_isShip ml_RX8_119 (by decide) (rc_8 (by first | rfl | assumption | decide | exact r73_k (by assumption) | exact fb_k (by assumption) | exact sb_k (by assumption) | exact tb_k (by assumption) | exact sb_li (by assumption) | exact sb_s (by assumption) | exact tb_n (by assumption) | exact fb_k (sb_f (by assumption)))) rfl rfl (Nat.le_of_ble_eq_true rfl) ct_X8_isShip ?_
    refine rw_if_ne (tgt := 31) F dc_X8_kinds_21 rfl (fun c3 => ?_) (fun c3 => ?_)
    · rw [if_neg c3] at hp
      refine rw_iconst (v := 0) F dc_X8_kinds_31 rfl ?_
      refine rw_istore F dc_X8_kinds_32 (by decide) rfl ?_
      refine rw_iconst (v := 0) F dc_X8_kinds_34 rfl ?_
      refine rw_istore F dc_X8_kinds_35 (by decide) rfl ?_
      exact lp_X8_kinds_37 F  N N _ _ _ _ _ _ hp ⟨by first | (simp only [f_X8_kinds, g_X8_kinds, if_pos c2, if_neg c3]; done) | rfl | (simp only [f_X8_kinds, g_X8_kinds, if_pos c2, if_neg c3]; rfl), by first | (simp only [f_X8_kinds, g_X8_kinds, if_pos c2, if_neg c3]; done) | rfl | (simp only [f_X8_kinds, g_X8_kinds, if_pos c2, if_neg c3]; rfl)⟩
    · rw [if_pos c3] at hp
      refine rw_aload_n F dc_X8_kinds_24 rfl ?_
      refine rw_ldc F dc_X8_kinds_25 kc_RX8_82 ?_
      refine rw_cVi F [_] dc_X8_kinds_27 mv_X8_found ml_RX8_83 (by decide) (rc_8 (by first | rfl | assumption | decide | exact r73_k (by assumption) | exact fb_k (by assumption) | exact sb_k (by assumption) | exact tb_k (by assumption) | exact sb_li (by assumption) | exact sb_s (by assumption) | exact tb_n (by assumption) | exact fb_k (sb_f (by assumption)))) rfl rfl (Nat.le_of_ble_eq_true rfl) cn_X8_found ?_
      refine rw_iret F dc_X8_kinds_30 rfl rfl ?_
      exact ⟨by first | (simp only [f_X8_kinds, g_X8_kinds, if_pos c2, if_pos c3]; done) | rfl | (simp only [f_X8_kinds, g_X8_kinds, if_pos c2, if_pos c3]; rfl), by first | (simp only [f_X8_kinds, g_X8_kinds, if_pos c2, if_pos c3]; done) | rfl | (simp only [f_X8_kinds, g_X8_kinds, if_pos c2, if_pos c3]; rfl)⟩
  · rw [if_neg c2] at hp
    refine rw_aload_n F dc_X8_kinds_10 rfl ?_
    refine rw_iload_n F dc_X8_kinds_11 rfl ?_
    refine rw_cVi F [_] dc_X8_kinds_12 mv_X8_found ml_RX8_83 (by decide) (rc_8 (by first | rfl | assumption | decide | exact r73_k (by assumption) | exact fb_k (by assumption) | exact sb_k (by assumption) | exact tb_k (by assumption) | exact sb_li (by assumption) | exact sb_s (by assumption) | exact tb_n (by assumption) | exact fb_k (sb_f (by assumption)))) rfl rfl (Nat.le_of_ble_eq_true rfl) cn_X8_found ?_
    refine rw_iret F dc_X8_kinds_15 rfl rfl ?_
    exact ⟨by first | (simp only [f_X8_kinds, g_X8_kinds, if_neg c2]; done) | rfl | (simp only [f_X8_kinds, g_X8_kinds, if_neg c2]; rfl), by first | (simp only [f_X8_kinds, g_X8_kinds, if_neg c2]; done) | rfl | (simp only [f_X8_kinds, g_X8_kinds, if_neg c2]; rfl)⟩
def lf_X8_bestToBecome_10 (N : Nat)  : Nat → Int32 → Int32 → Int32 → Int32 → Int32 → Int32 → Int32 → tw_T → Int32
  | 0, _, _, _, _, _, _, _, _ => 0
  | n + 1, x1, x2, x3, x4, x5, x6, x7, τ => if x3 < x7 then x5 else (if x6 ≤ (f_X8_strandedWith N x1 x2 x7 x4 τ) then (lf_X8_bestToBecome_10 N n x1 x2 x3 x4 x5 x6 (x7 + 1) (g_X8_strandedWith N x1 x2 x7 x4 τ)) else (lf_X8_bestToBecome_10 N n x1 x2 x3 x4 x7 (f_X8_strandedWith N x1 x2 x7 x4 τ) (x7 + 1) (g_X8_strandedWith N x1 x2 x7 x4 τ)))
def lg_X8_bestToBecome_10 (N : Nat)  : Nat → Int32 → Int32 → Int32 → Int32 → Int32 → Int32 → Int32 → tw_T → tw_T
  | 0, _, _, _, _, _, _, _, τ => τ
  | n + 1, x1, x2, x3, x4, x5, x6, x7, τ => if x3 < x7 then τ else (if x6 ≤ (f_X8_strandedWith N x1 x2 x7 x4 τ) then (lg_X8_bestToBecome_10 N n x1 x2 x3 x4 x5 x6 (x7 + 1) (g_X8_strandedWith N x1 x2 x7 x4 τ)) else (lg_X8_bestToBecome_10 N n x1 x2 x3 x4 x7 (f_X8_strandedWith N x1 x2 x7 x4 τ) (x7 + 1) (g_X8_strandedWith N x1 x2 x7 x4 τ)))
def lo_X8_bestToBecome_10 (N : Nat)  : Nat → Int32 → Int32 → Int32 → Int32 → Int32 → Int32 → Int32 → tw_T → Prop
  | 0, _, _, _, _, _, _, _, _ => False
  | n + 1, x1, x2, x3, x4, x5, x6, x7, τ => if x3 < x7 then True else (p_X8_strandedWith N x1 x2 x7 x4 τ ∧ (if x6 ≤ (f_X8_strandedWith N x1 x2 x7 x4 τ) then (lo_X8_bestToBecome_10 N n x1 x2 x3 x4 x5 x6 (x7 + 1) (g_X8_strandedWith N x1 x2 x7 x4 τ)) else (lo_X8_bestToBecome_10 N n x1 x2 x3 x4 x7 (f_X8_strandedWith N x1 x2 x7 x4 τ) (x7 + 1) (g_X8_strandedWith N x1 x2 x7 x4 τ))))
def f_X8_bestToBecome (N : Nat)  (x1 : Int32) (x2 : Int32) (x3 : Int32) (x4 : Int32) (τ : tw_T) : Int32 := lf_X8_bestToBecome_10 N N x1 x2 x3 x4 0 79993 0 τ
def g_X8_bestToBecome (N : Nat)  (x1 : Int32) (x2 : Int32) (x3 : Int32) (x4 : Int32) (τ : tw_T) : tw_T := lg_X8_bestToBecome_10 N N x1 x2 x3 x4 0 79993 0 τ
def p_X8_bestToBecome (N : Nat)  (x1 : Int32) (x2 : Int32) (x3 : Int32) (x4 : Int32) (τ : tw_T) : Prop := lo_X8_bestToBecome_10 N N x1 x2 x3 x4 0 79993 0 τ
theorem lp_X8_bestToBecome_10 {K : tw_K} {Q : Option Value → tw_T → Prop} (F : tw_F K mX8_bestToBecome 6 Q)   (N : Nat)  : ∀ (n : Nat) (x1 : Int32) (x2 : Int32) (x3 : Int32) (x4 : Int32) (x5 : Int32) (x6 : Int32) (x7 : Int32) (τ : tw_T), lo_X8_bestToBecome_10 N n x1 x2 x3 x4 x5 x6 x7 τ → Q (some (.int (lf_X8_bestToBecome_10 N n x1 x2 x3 x4 x5 x6 x7 τ))) (lg_X8_bestToBecome_10 N n x1 x2 x3 x4 x5 x6 x7 τ) → tw_R K 10 [.ref 0, .int x1, .int x2, .int x3, .int x4, .int x5, .int x6, .int x7, .null] [] τ := by
  intro n
  induction n with
  | zero => intro x1 x2 x3 x4 x5 x6 x7 τ hp _; exact False.elim hp
  | succ n ih =>
    intro x1 x2 x3 x4 x5 x6 x7 τ hp hq
    simp only [lo_X8_bestToBecome_10] at hp
    simp only [lf_X8_bestToBecome_10, lg_X8_bestToBecome_10] at hq
    refine rw_iload F dc_X8_bestToBecome_10 rfl ?_
    refine rw_iload_n F dc_X8_bestToBecome_12 rfl ?_
    refine rw_icmp_gt (tgt := 49) F dc_X8_bestToBecome_13 rfl (fun c1 => ?_) (fun c1 => ?_)
    · rw [if_pos c1] at hp
      refine rw_iload F dc_X8_bestToBecome_49 rfl ?_
      refine rw_iret F dc_X8_bestToBecome_51 rfl rfl ?_
      exact (by simpa only [if_pos c1] using hq)
    · rw [if_neg c1] at hp
      refine rw_aload_n F dc_X8_bestToBecome_16 rfl ?_
      refine rw_iload_n F dc_X8_bestToBecome_17 rfl ?_
      refine rw_iload_n F dc_X8_bestToBecome_18 rfl ?_
      refine rw_iload F dc_X8_bestToBecome_19 rfl ?_
      refine rw_iload F dc_X8_bestToBecome_21 rfl ?_
      obtain ⟨hs2, hp⟩ := hp
      refine rw_cVi F [_, _, _, _] dc_X8_bestToBecome_23 mv_X8_strandedWith ml_RX8_222 (by decide) (rc_8 (by first | rfl | assumption | decide | exact r73_k (by assumption) | exact fb_k (by assumption) | exact sb_k (by assumption) | exact tb_k (by assumption) | exact sb_li (by assumption) | exact sb_s (by assumption) | exact tb_n (by assumption) | exact fb_k (sb_f (by assumption)))) rfl rfl (Nat.le_of_ble_eq_true rfl) (ct_X8_strandedWith hs2) ?_
      refine rw_istore F dc_X8_bestToBecome_26 (by decide) rfl ?_
      refine rw_iload F dc_X8_bestToBecome_28 rfl ?_
      refine rw_iload F dc_X8_bestToBecome_30 rfl ?_
      refine rw_icmp_ge (tgt := 43) F dc_X8_bestToBecome_32 rfl (fun c3 => ?_) (fun c3 => ?_)
      · rw [if_pos c3] at hp
        refine rw_inc (n1 := 1) F dc_X8_bestToBecome_43 rfl rfl (by decide) rfl ?_
        refine rw_goto (tgt := 10) F dc_X8_bestToBecome_46 rfl ?_
        refine rw_nul 8 ?_
        exact ih _ _ _ _ _ _ _ _ hp (by simpa only [if_neg c1, if_pos c3] using hq)
      · rw [if_neg c3] at hp
        refine rw_iload F dc_X8_bestToBecome_35 rfl ?_
        refine rw_istore F dc_X8_bestToBecome_37 (by decide) rfl ?_
        refine rw_iload F dc_X8_bestToBecome_39 rfl ?_
        refine rw_istore F dc_X8_bestToBecome_41 (by decide) rfl ?_
        refine rw_inc (n1 := 1) F dc_X8_bestToBecome_43 rfl rfl (by decide) rfl ?_
        refine rw_goto (tgt := 10) F dc_X8_bestToBecome_46 rfl ?_
        refine rw_nul 8 ?_
        exact ih _ _ _ _ _ _ _ _ hp (by simpa only [if_neg c1, if_neg c3] using hq)
theorem cr_X8_bestToBecome {E : tw_E}  {N : Nat}  {x1 : Int32} {x2 : Int32} {x3 : Int32} {x4 : Int32} {τ : tw_T} (hp : p_X8_bestToBecome N x1 x2 x3 x4 τ)  : tw_Ci E 6 mX8_bestToBecome [.ref 0, .int x1, .int x2, .int x3, .int x4] τ (f_X8_bestToBecome N x1 x2 x3 x4 τ) (g_X8_bestToBecome N x1 x2 x3 x4 τ) := by
  unfold p_X8_bestToBecome at hp
  refine ct_of (by decide) (by simp [Value.category]) (Nat.le_of_ble_eq_true rfl) (fun K hE F => ?_)
  subst hE
  refine rw_iconst (v := 0) F dc_X8_bestToBecome_0 rfl ?_
  refine rw_istore F dc_X8_bestToBecome_1 (by decide) rfl ?_
  refine rw_ldc F dc_X8_bestToBecome_3 kc_RX8_206 ?_
  refine rw_istore F dc_X8_bestToBecome_5 (by decide) rfl ?_
  refine rw_iconst (v := 0) F dc_X8_bestToBecome_7 rfl ?_
  refine rw_istore F dc_X8_bestToBecome_8 (by decide) rfl ?_
  exact lp_X8_bestToBecome_10 F  N N _ _ _ _ _ _ _ _ hp ⟨by first | (simp only [f_X8_bestToBecome, g_X8_bestToBecome]; done) | rfl | (simp only [f_X8_bestToBecome, g_X8_bestToBecome]; rfl), by first | (simp only [f_X8_bestToBecome, g_X8_bestToBecome]; done) | rfl | (simp only [f_X8_bestToBecome, g_X8_bestToBecome]; rfl)⟩
def f_X8_kindFor (N : Nat)  (x1 : Int32) (x2 : Int32) (τ : tw_T) : Int32 := if (f_X8_isShip x1 τ) = (0 : Int32) then ((-1000001)) else (if (f_X8_within x2 0 60 τ) = (0 : Int32) then ((-1000001)) else (f_X8_bestToBecome N x1 0 6 x2 τ))
def g_X8_kindFor (N : Nat)  (x1 : Int32) (x2 : Int32) (τ : tw_T) : tw_T := if (f_X8_isShip x1 τ) = (0 : Int32) then (g_X8_found ((-1000001)) τ) else (if (f_X8_within x2 0 60 τ) = (0 : Int32) then (g_X8_found ((-1000001)) τ) else (g_X8_bestToBecome N x1 0 6 x2 τ))
def p_X8_kindFor (N : Nat)  (x1 : Int32) (x2 : Int32) (τ : tw_T) : Prop := if (f_X8_isShip x1 τ) = (0 : Int32) then True else (if (f_X8_within x2 0 60 τ) = (0 : Int32) then True else (p_X8_bestToBecome N x1 0 6 x2 τ ∧ True))
theorem ct_X8_kindFor {E : tw_E}  {N : Nat}  {x1 : Int32} {x2 : Int32} {τ : tw_T} (hp : p_X8_kindFor N x1 x2 τ)  : tw_Ci E 7 mX8_kindFor [.ref 0, .int x1, .int x2] τ (f_X8_kindFor N x1 x2 τ) (g_X8_kindFor N x1 x2 τ) := by
  unfold p_X8_kindFor at hp
  refine ct_of (by decide) (by simp [Value.category]) (Nat.le_of_ble_eq_true rfl) (fun K hE F => ?_)
  subst hE
  refine rw_aload_n F dc_X8_kindFor_0 rfl ?_
  refine rw_iload_n F dc_X8_kindFor_1 rfl ?_
  refine rw_cVi F [_] dc_X8_kindFor_2 mv_X8_isShip ml_RX8_119 (by decide) (rc_8 (by first | rfl | assumption | decide | exact r73_k (by assumption) | exact fb_k (by assumption) | exact sb_k (by assumption) | exact tb_k (by assumption) | exact sb_li (by assumption) | exact sb_s (by assumption) | exact tb_n (by assumption) | exact fb_k (sb_f (by assumption)))) rfl rfl (Nat.le_of_ble_eq_true rfl) ct_X8_isShip ?_
  refine rw_if_eq (tgt := 18) F dc_X8_kindFor_5 rfl (fun c1 => ?_) (fun c1 => ?_)
  · rw [if_pos c1] at hp
    refine rw_aload_n F dc_X8_kindFor_18 rfl ?_
    refine rw_ldc F dc_X8_kindFor_19 kc_RX8_82 ?_
    refine rw_cVi F [_] dc_X8_kindFor_21 mv_X8_found ml_RX8_83 (by decide) (rc_8 (by first | rfl | assumption | decide | exact r73_k (by assumption) | exact fb_k (by assumption) | exact sb_k (by assumption) | exact tb_k (by assumption) | exact sb_li (by assumption) | exact sb_s (by assumption) | exact tb_n (by assumption) | exact fb_k (sb_f (by assumption)))) rfl rfl (Nat.le_of_ble_eq_true rfl) cn_X8_found ?_
    refine rw_iret F dc_X8_kindFor_24 rfl rfl ?_
    exact ⟨by first | (simp only [f_X8_kindFor, g_X8_kindFor, if_pos c1]; done) | rfl | (simp only [f_X8_kindFor, g_X8_kindFor, if_pos c1]; rfl), by first | (simp only [f_X8_kindFor, g_X8_kindFor, if_pos c1]; done) | rfl | (simp only [f_X8_kindFor, g_X8_kindFor, if_pos c1]; rfl)⟩
  · rw [if_neg c1] at hp
    refine rw_iload_n F dc_X8_kindFor_8 rfl ?_
    refine rw_iconst (v := 0) F dc_X8_kindFor_9 rfl ?_
    refine rw_bipush (v := 60) F dc_X8_kindFor_10 rfl ?_
    refine rw_cSi F [_, _, _] dc_X8_kindFor_12 ms_X8_within ml_RX8_97 (by decide)  rfl rfl (Nat.le_of_ble_eq_true rfl) ct_X8_within ?_
    refine rw_if_ne (tgt := 25) F dc_X8_kindFor_15 rfl (fun c2 => ?_) (fun c2 => ?_)
    · rw [if_neg c2] at hp
      refine rw_aload_n F dc_X8_kindFor_25 rfl ?_
      refine rw_iload_n F dc_X8_kindFor_26 rfl ?_
      refine rw_iconst (v := 0) F dc_X8_kindFor_27 rfl ?_
      refine rw_bipush (v := 6) F dc_X8_kindFor_28 rfl ?_
      refine rw_iload_n F dc_X8_kindFor_30 rfl ?_
      obtain ⟨hs3, hp⟩ := hp
      refine rw_cVi F [_, _, _, _] dc_X8_kindFor_31 mv_X8_bestToBecome ml_RX8_218 (by decide) (rc_8 (by first | rfl | assumption | decide | exact r73_k (by assumption) | exact fb_k (by assumption) | exact sb_k (by assumption) | exact tb_k (by assumption) | exact sb_li (by assumption) | exact sb_s (by assumption) | exact tb_n (by assumption) | exact fb_k (sb_f (by assumption)))) rfl rfl (Nat.le_of_ble_eq_true rfl) (cr_X8_bestToBecome hs3) ?_
      refine rw_iret F dc_X8_kindFor_34 rfl rfl ?_
      exact ⟨by first | (simp only [f_X8_kindFor, g_X8_kindFor, if_neg c1, if_neg c2]; done) | rfl | (simp only [f_X8_kindFor, g_X8_kindFor, if_neg c1, if_neg c2]; rfl), by first | (simp only [f_X8_kindFor, g_X8_kindFor, if_neg c1, if_neg c2]; done) | rfl | (simp only [f_X8_kindFor, g_X8_kindFor, if_neg c1, if_neg c2]; rfl)⟩
    · rw [if_pos c2] at hp
      refine rw_aload_n F dc_X8_kindFor_18 rfl ?_
      refine rw_ldc F dc_X8_kindFor_19 kc_RX8_82 ?_
      refine rw_cVi F [_] dc_X8_kindFor_21 mv_X8_found ml_RX8_83 (by decide) (rc_8 (by first | rfl | assumption | decide | exact r73_k (by assumption) | exact fb_k (by assumption) | exact sb_k (by assumption) | exact tb_k (by assumption) | exact sb_li (by assumption) | exact sb_s (by assumption) | exact tb_n (by assumption) | exact fb_k (sb_f (by assumption)))) rfl rfl (Nat.le_of_ble_eq_true rfl) cn_X8_found ?_
      refine rw_iret F dc_X8_kindFor_24 rfl rfl ?_
      exact ⟨by first | (simp only [f_X8_kindFor, g_X8_kindFor, if_neg c1, if_pos c2]; done) | rfl | (simp only [f_X8_kindFor, g_X8_kindFor, if_neg c1, if_pos c2]; rfl), by first | (simp only [f_X8_kindFor, g_X8_kindFor, if_neg c1, if_pos c2]; done) | rfl | (simp only [f_X8_kindFor, g_X8_kindFor, if_neg c1, if_pos c2]; rfl)⟩
def f_X8_start (N : Nat)  (x1 : Int32) (x2 : Int32) (τ : tw_T) : Int32 := if (f_X8_isShip x1 τ) = (0 : Int32) then ((-1000001)) else (if (f_X8_within x2 0 60 τ) = (0 : Int32) then ((-1000001)) else (f_X8_bestToBecome N x1 1 23 x2 τ))
def g_X8_start (N : Nat)  (x1 : Int32) (x2 : Int32) (τ : tw_T) : tw_T := if (f_X8_isShip x1 τ) = (0 : Int32) then (g_X8_found ((-1000001)) τ) else (if (f_X8_within x2 0 60 τ) = (0 : Int32) then (g_X8_found ((-1000001)) τ) else (g_X8_bestToBecome N x1 1 23 x2 τ))
def p_X8_start (N : Nat)  (x1 : Int32) (x2 : Int32) (τ : tw_T) : Prop := if (f_X8_isShip x1 τ) = (0 : Int32) then True else (if (f_X8_within x2 0 60 τ) = (0 : Int32) then True else (p_X8_bestToBecome N x1 1 23 x2 τ ∧ True))
theorem ct_X8_start {E : tw_E}  {N : Nat}  {x1 : Int32} {x2 : Int32} {τ : tw_T} (hp : p_X8_start N x1 x2 τ)  : tw_Ci E 7 mX8_start [.ref 0, .int x1, .int x2] τ (f_X8_start N x1 x2 τ) (g_X8_start N x1 x2 τ) := by
  unfold p_X8_start at hp
  refine ct_of (by decide) (by simp [Value.category]) (Nat.le_of_ble_eq_true rfl) (fun K hE F => ?_)
  subst hE
  refine rw_aload_n F dc_X8_start_0 rfl ?_
  refine rw_iload_n F dc_X8_start_1 rfl ?_
  refine rw_cVi F [_] dc_X8_start_2 mv_X8_isShip ml_RX8_119 (by decide) (rc_8 (by first | rfl | assumption | decide | exact r73_k (by assumption) | exact fb_k (by assumption) | exact sb_k (by assumption) | exact tb_k (by assumption) | exact sb_li (by assumption) | exact sb_s (by assumption) | exact tb_n (by assumption) | exact fb_k (sb_f (by assumption)))) rfl rfl (Nat.le_of_ble_eq_true rfl) ct_X8_isShip ?_
  refine rw_if_eq (tgt := 18) F dc_X8_start_5 rfl (fun c1 => ?_) (fun c1 => ?_)
  · rw [if_pos c1] at hp
    refine rw_aload_n F dc_X8_start_18 rfl ?_
    refine rw_ldc F dc_X8_start_19 kc_RX8_82 ?_
    refine rw_cVi F [_] dc_X8_start_21 mv_X8_found ml_RX8_83 (by decide) (rc_8 (by first | rfl | assumption | decide | exact r73_k (by assumption) | exact fb_k (by assumption) | exact sb_k (by assumption) | exact tb_k (by assumption) | exact sb_li (by assumption) | exact sb_s (by assumption) | exact tb_n (by assumption) | exact fb_k (sb_f (by assumption)))) rfl rfl (Nat.le_of_ble_eq_true rfl) cn_X8_found ?_
    refine rw_iret F dc_X8_start_24 rfl rfl ?_
    exact ⟨by first | (simp only [f_X8_start, g_X8_start, if_pos c1]; done) | rfl | (simp only [f_X8_start, g_X8_start, if_pos c1]; rfl), by first | (simp only [f_X8_start, g_X8_start, if_pos c1]; done) | rfl | (simp only [f_X8_start, g_X8_start, if_pos c1]; rfl)⟩
  · rw [if_neg c1] at hp
    refine rw_iload_n F dc_X8_start_8 rfl ?_
    refine rw_iconst (v := 0) F dc_X8_start_9 rfl ?_
    refine rw_bipush (v := 60) F dc_X8_start_10 rfl ?_
    refine rw_cSi F [_, _, _] dc_X8_start_12 ms_X8_within ml_RX8_97 (by decide)  rfl rfl (Nat.le_of_ble_eq_true rfl) ct_X8_within ?_
    refine rw_if_ne (tgt := 25) F dc_X8_start_15 rfl (fun c2 => ?_) (fun c2 => ?_)
    · rw [if_neg c2] at hp
      refine rw_aload_n F dc_X8_start_25 rfl ?_
      refine rw_iload_n F dc_X8_start_26 rfl ?_
      refine rw_iconst (v := 1) F dc_X8_start_27 rfl ?_
      refine rw_bipush (v := 23) F dc_X8_start_28 rfl ?_
      refine rw_iload_n F dc_X8_start_30 rfl ?_
      obtain ⟨hs3, hp⟩ := hp
      refine rw_cVi F [_, _, _, _] dc_X8_start_31 mv_X8_bestToBecome ml_RX8_218 (by decide) (rc_8 (by first | rfl | assumption | decide | exact r73_k (by assumption) | exact fb_k (by assumption) | exact sb_k (by assumption) | exact tb_k (by assumption) | exact sb_li (by assumption) | exact sb_s (by assumption) | exact tb_n (by assumption) | exact fb_k (sb_f (by assumption)))) rfl rfl (Nat.le_of_ble_eq_true rfl) (cr_X8_bestToBecome hs3) ?_
      refine rw_iret F dc_X8_start_34 rfl rfl ?_
      exact ⟨by first | (simp only [f_X8_start, g_X8_start, if_neg c1, if_neg c2]; done) | rfl | (simp only [f_X8_start, g_X8_start, if_neg c1, if_neg c2]; rfl), by first | (simp only [f_X8_start, g_X8_start, if_neg c1, if_neg c2]; done) | rfl | (simp only [f_X8_start, g_X8_start, if_neg c1, if_neg c2]; rfl)⟩
    · rw [if_pos c2] at hp
      refine rw_aload_n F dc_X8_start_18 rfl ?_
      refine rw_ldc F dc_X8_start_19 kc_RX8_82 ?_
      refine rw_cVi F [_] dc_X8_start_21 mv_X8_found ml_RX8_83 (by decide) (rc_8 (by first | rfl | assumption | decide | exact r73_k (by assumption) | exact fb_k (by assumption) | exact sb_k (by assumption) | exact tb_k (by assumption) | exact sb_li (by assumption) | exact sb_s (by assumption) | exact tb_n (by assumption) | exact fb_k (sb_f (by assumption)))) rfl rfl (Nat.le_of_ble_eq_true rfl) cn_X8_found ?_
      refine rw_iret F dc_X8_start_24 rfl rfl ?_
      exact ⟨by first | (simp only [f_X8_start, g_X8_start, if_neg c1, if_pos c2]; done) | rfl | (simp only [f_X8_start, g_X8_start, if_neg c1, if_pos c2]; rfl), by first | (simp only [f_X8_start, g_X8_start, if_neg c1, if_pos c2]; done) | rfl | (simp only [f_X8_start, g_X8_start, if_neg c1, if_pos c2]; rfl)⟩
def f_X8_fits (N : Nat)  (x1 : Int32) (τ : tw_T) : Int32 := if (f_X8_troubleWith x1 τ) = (0 : Int32) then (if (f_X0_canBeMet (g_X0_hear N (182 + 2 * x1.toNatClampNeg) 2 τ)) = (0 : Int32) then 0 else ((1 : Int32) <<< ((f_X0_freeBits (g_X0_hear N (182 + 2 * x1.toNatClampNeg) 2 τ)) &&& 31))) else (f_X8_troubleWith x1 τ)
def g_X8_fits (N : Nat)  (x1 : Int32) (τ : tw_T) : tw_T := if (f_X8_troubleWith x1 τ) = (0 : Int32) then (g_X0_hear N (182 + 2 * x1.toNatClampNeg) 2 τ) else (g_X8_found (f_X8_troubleWith x1 τ) τ)
def p_X8_fits (N : Nat)  (x1 : Int32) (τ : tw_T) : Prop := p_X8_troubleWith x1 τ ∧ (if (f_X8_troubleWith x1 τ) = (0 : Int32) then (vp_in x1 4 ∧ (p_X0_hear N (182 + 2 * x1.toNatClampNeg) 2 τ ∧ True)) else True)
theorem ct_X8_fits {E : tw_E}  {N : Nat}  {x1 : Int32} {τ : tw_T} (hp : p_X8_fits N x1 τ)  : tw_Ci E 7 mX8_fits [.ref 0, .int x1] τ (f_X8_fits N x1 τ) (g_X8_fits N x1 τ) := by
  unfold p_X8_fits at hp
  refine ct_of (by decide) (by simp [Value.category]) (Nat.le_of_ble_eq_true rfl) (fun K hE F => ?_)
  subst hE
  refine rw_aload_n F dc_X8_fits_0 rfl ?_
  refine rw_iload_n F dc_X8_fits_1 rfl ?_
  obtain ⟨hs1, hp⟩ := hp
  refine rw_cVi F [_] dc_X8_fits_2 mv_X8_troubleWith ml_RX8_228 (by decide) (rc_8 (by first | rfl | assumption | decide | exact r73_k (by assumption) | exact fb_k (by assumption) | exact sb_k (by assumption) | exact tb_k (by assumption) | exact sb_li (by assumption) | exact sb_s (by assumption) | exact tb_n (by assumption) | exact fb_k (sb_f (by assumption)))) rfl rfl (Nat.le_of_ble_eq_true rfl) (ct_X8_troubleWith hs1) ?_
  refine rw_istore_n F dc_X8_fits_5 (by decide) rfl ?_
  refine rw_iload_n F dc_X8_fits_6 rfl ?_
  refine rw_if_eq (tgt := 16) F dc_X8_fits_7 rfl (fun c2 => ?_) (fun c2 => ?_)
  · rw [if_pos c2] at hp
    refine rw_aload_n F dc_X8_fits_16 rfl ?_
    refine rw_getR F dc_X8_fits_17 fl_RX8_66 (by first | rfl | assumption | decide | exact r73_k (by assumption) | exact fb_k (by assumption) | exact sb_k (by assumption) | exact tb_k (by assumption) | exact sb_li (by assumption) | exact sb_s (by assumption) | exact tb_n (by assumption) | exact fb_k (sb_f (by assumption))) (by first | rfl | assumption | exact lk6 (by assumption) _ | exact lk2 (by assumption) _ | exact fb_l0 (by assumption) | exact fb_l1 (by assumption) | exact sb_l0 (by assumption) | exact sb_l1 (by assumption) | exact sb_l2 (by assumption) | exact sb_l3 (by assumption) | exact tb_l0 (by assumption) | exact tb_l1 (by assumption) | exact tb_l2 (by assumption) | exact lk2 (sb_li (by assumption)) _ | exact fb_l0 (sb_f (by assumption)) | exact fb_l1 (sb_f (by assumption))) ?_
    refine rw_aload_n F dc_X8_fits_20 rfl ?_
    refine rw_getR F dc_X8_fits_21 fl_RX8_32 (by first | rfl | assumption | decide | exact r73_k (by assumption) | exact fb_k (by assumption) | exact sb_k (by assumption) | exact tb_k (by assumption) | exact sb_li (by assumption) | exact sb_s (by assumption) | exact tb_n (by assumption) | exact fb_k (sb_f (by assumption))) (by first | rfl | assumption | exact lk6 (by assumption) _ | exact lk2 (by assumption) _ | exact fb_l0 (by assumption) | exact fb_l1 (by assumption) | exact sb_l0 (by assumption) | exact sb_l1 (by assumption) | exact sb_l2 (by assumption) | exact sb_l3 (by assumption) | exact tb_l0 (by assumption) | exact tb_l1 (by assumption) | exact tb_l2 (by assumption) | exact lk2 (sb_li (by assumption)) _ | exact fb_l0 (sb_f (by assumption)) | exact fb_l1 (sb_f (by assumption))) ?_
    refine rw_iload_n F dc_X8_fits_24 rfl ?_
    obtain ⟨hs3, hp⟩ := hp
    refine rw_aaSheet F dc_X8_fits_25 hs3 (fun hk4 => ?_)
    refine rw_aload_n F dc_X8_fits_26 rfl ?_
    refine rw_getR F dc_X8_fits_27 fl_RX8_12 (by first | rfl | assumption | decide | exact r73_k (by assumption) | exact fb_k (by assumption) | exact sb_k (by assumption) | exact tb_k (by assumption) | exact sb_li (by assumption) | exact sb_s (by assumption) | exact tb_n (by assumption) | exact fb_k (sb_f (by assumption))) (by first | rfl | assumption | exact lk6 (by assumption) _ | exact lk2 (by assumption) _ | exact fb_l0 (by assumption) | exact fb_l1 (by assumption) | exact sb_l0 (by assumption) | exact sb_l1 (by assumption) | exact sb_l2 (by assumption) | exact sb_l3 (by assumption) | exact tb_l0 (by assumption) | exact tb_l1 (by assumption) | exact tb_l2 (by assumption) | exact lk2 (sb_li (by assumption)) _ | exact fb_l0 (sb_f (by assumption)) | exact fb_l1 (sb_f (by assumption))) ?_
    refine rw_getR F dc_X8_fits_30 fl_RX8_87 (by first | rfl | assumption | decide | exact r73_k (by assumption) | exact fb_k (by assumption) | exact sb_k (by assumption) | exact tb_k (by assumption) | exact sb_li (by assumption) | exact sb_s (by assumption) | exact tb_n (by assumption) | exact fb_k (sb_f (by assumption))) (by first | rfl | assumption | exact lk6 (by assumption) _ | exact lk2 (by assumption) _ | exact fb_l0 (by assumption) | exact fb_l1 (by assumption) | exact sb_l0 (by assumption) | exact sb_l1 (by assumption) | exact sb_l2 (by assumption) | exact sb_l3 (by assumption) | exact tb_l0 (by assumption) | exact tb_l1 (by assumption) | exact tb_l2 (by assumption) | exact lk2 (sb_li (by assumption)) _ | exact fb_l0 (sb_f (by assumption)) | exact fb_l1 (sb_f (by assumption))) ?_
    obtain ⟨hs5, hp⟩ := hp
    refine rw_cVv F [_, _] dc_X8_fits_33 mv_X0_hear ml_RX8_235 (by decide) (rc_0 (by first | rfl | assumption | decide | exact r73_k (by assumption) | exact fb_k (by assumption) | exact sb_k (by assumption) | exact tb_k (by assumption) | exact sb_li (by assumption) | exact sb_s (by assumption) | exact tb_n (by assumption) | exact fb_k (sb_f (by assumption)))) rfl rfl (Nat.le_of_ble_eq_true rfl) (cr_X0_hear hs5) ?_
    refine rw_aload_n F dc_X8_fits_36 rfl ?_
    refine rw_getR F dc_X8_fits_37 fl_RX8_66 (by first | rfl | assumption | decide | exact r73_k (by assumption) | exact fb_k (by assumption) | exact sb_k (by assumption) | exact tb_k (by assumption) | exact sb_li (by assumption) | exact sb_s (by assumption) | exact tb_n (by assumption) | exact fb_k (sb_f (by assumption))) (by first | rfl | assumption | exact lk6 (by assumption) _ | exact lk2 (by assumption) _ | exact fb_l0 (by assumption) | exact fb_l1 (by assumption) | exact sb_l0 (by assumption) | exact sb_l1 (by assumption) | exact sb_l2 (by assumption) | exact sb_l3 (by assumption) | exact tb_l0 (by assumption) | exact tb_l1 (by assumption) | exact tb_l2 (by assumption) | exact lk2 (sb_li (by assumption)) _ | exact fb_l0 (sb_f (by assumption)) | exact fb_l1 (sb_f (by assumption))) ?_
    refine rw_cVi F [] dc_X8_fits_40 mv_X0_canBeMet ml_RX8_239 (by decide) (rc_0 (by first | rfl | assumption | decide | exact r73_k (by assumption) | exact fb_k (by assumption) | exact sb_k (by assumption) | exact tb_k (by assumption) | exact sb_li (by assumption) | exact sb_s (by assumption) | exact tb_n (by assumption) | exact fb_k (sb_f (by assumption)))) rfl rfl (Nat.le_of_ble_eq_true rfl) ct_X0_canBeMet ?_
    refine rw_if_eq (tgt := 58) F dc_X8_fits_43 rfl (fun c6 => ?_) (fun c6 => ?_)
    · refine rw_iconst (v := 0) F dc_X8_fits_58 rfl ?_
      refine rw_iret F dc_X8_fits_59 rfl rfl ?_
      exact ⟨by first | (simp only [f_X8_fits, g_X8_fits, if_pos c2, if_pos c6]; done) | rfl | (simp only [f_X8_fits, g_X8_fits, if_pos c2, if_pos c6]; rfl), by first | (simp only [f_X8_fits, g_X8_fits, if_pos c2, if_pos c6]; done) | rfl | (simp only [f_X8_fits, g_X8_fits, if_pos c2, if_pos c6]; rfl)⟩
    · refine rw_iconst (v := 1) F dc_X8_fits_46 rfl ?_
      refine rw_aload_n F dc_X8_fits_47 rfl ?_
      refine rw_getR F dc_X8_fits_48 fl_RX8_66 (by first | rfl | assumption | decide | exact r73_k (by assumption) | exact fb_k (by assumption) | exact sb_k (by assumption) | exact tb_k (by assumption) | exact sb_li (by assumption) | exact sb_s (by assumption) | exact tb_n (by assumption) | exact fb_k (sb_f (by assumption))) (by first | rfl | assumption | exact lk6 (by assumption) _ | exact lk2 (by assumption) _ | exact fb_l0 (by assumption) | exact fb_l1 (by assumption) | exact sb_l0 (by assumption) | exact sb_l1 (by assumption) | exact sb_l2 (by assumption) | exact sb_l3 (by assumption) | exact tb_l0 (by assumption) | exact tb_l1 (by assumption) | exact tb_l2 (by assumption) | exact lk2 (sb_li (by assumption)) _ | exact fb_l0 (sb_f (by assumption)) | exact fb_l1 (sb_f (by assumption))) ?_
      refine rw_cVi F [] dc_X8_fits_51 mv_X0_freeBits ml_RX8_242 (by decide) (rc_0 (by first | rfl | assumption | decide | exact r73_k (by assumption) | exact fb_k (by assumption) | exact sb_k (by assumption) | exact tb_k (by assumption) | exact sb_li (by assumption) | exact sb_s (by assumption) | exact tb_n (by assumption) | exact fb_k (sb_f (by assumption)))) rfl rfl (Nat.le_of_ble_eq_true rfl) ct_X0_freeBits ?_
      refine rw_ishl F dc_X8_fits_54 ?_
      refine rw_goto (tgt := 59) F dc_X8_fits_55 rfl ?_
      refine rw_iret F dc_X8_fits_59 rfl rfl ?_
      exact ⟨by first | (simp only [f_X8_fits, g_X8_fits, if_pos c2, if_neg c6]; done) | rfl | (simp only [f_X8_fits, g_X8_fits, if_pos c2, if_neg c6]; rfl), by first | (simp only [f_X8_fits, g_X8_fits, if_pos c2, if_neg c6]; done) | rfl | (simp only [f_X8_fits, g_X8_fits, if_pos c2, if_neg c6]; rfl)⟩
  · rw [if_neg c2] at hp
    refine rw_aload_n F dc_X8_fits_10 rfl ?_
    refine rw_iload_n F dc_X8_fits_11 rfl ?_
    refine rw_cVi F [_] dc_X8_fits_12 mv_X8_found ml_RX8_83 (by decide) (rc_8 (by first | rfl | assumption | decide | exact r73_k (by assumption) | exact fb_k (by assumption) | exact sb_k (by assumption) | exact tb_k (by assumption) | exact sb_li (by assumption) | exact sb_s (by assumption) | exact tb_n (by assumption) | exact fb_k (sb_f (by assumption)))) rfl rfl (Nat.le_of_ble_eq_true rfl) cn_X8_found ?_
    refine rw_iret F dc_X8_fits_15 rfl rfl ?_
    exact ⟨by first | (simp only [f_X8_fits, g_X8_fits, if_neg c2]; done) | rfl | (simp only [f_X8_fits, g_X8_fits, if_neg c2]; rfl), by first | (simp only [f_X8_fits, g_X8_fits, if_neg c2]; done) | rfl | (simp only [f_X8_fits, g_X8_fits, if_neg c2]; rfl)⟩
def f_X8_pattern (N : Nat)  (x1 : Int32) (τ : tw_T) : Int32 := if (f_X8_troubleWith x1 τ) = (0 : Int32) then (if (f_X0_canBeMet (g_X0_hear N (182 + 2 * x1.toNatClampNeg) 2 τ)) = (0 : Int32) then ((-1000004)) else ((g_X0_hear N (182 + 2 * x1.toNatClampNeg) 2 τ) 48 0)) else (f_X8_troubleWith x1 τ)
def g_X8_pattern (N : Nat)  (x1 : Int32) (τ : tw_T) : tw_T := if (f_X8_troubleWith x1 τ) = (0 : Int32) then (if (f_X0_canBeMet (g_X0_hear N (182 + 2 * x1.toNatClampNeg) 2 τ)) = (0 : Int32) then (g_X8_found ((-1000004)) (g_X0_hear N (182 + 2 * x1.toNatClampNeg) 2 τ)) else (g_X0_hear N (182 + 2 * x1.toNatClampNeg) 2 τ)) else (g_X8_found (f_X8_troubleWith x1 τ) τ)
def p_X8_pattern (N : Nat)  (x1 : Int32) (τ : tw_T) : Prop := p_X8_troubleWith x1 τ ∧ (if (f_X8_troubleWith x1 τ) = (0 : Int32) then (vp_in x1 4 ∧ (p_X0_hear N (182 + 2 * x1.toNatClampNeg) 2 τ ∧ True)) else True)
theorem ct_X8_pattern {E : tw_E}  {N : Nat}  {x1 : Int32} {τ : tw_T} (hp : p_X8_pattern N x1 τ)  : tw_Ci E 7 mX8_pattern [.ref 0, .int x1] τ (f_X8_pattern N x1 τ) (g_X8_pattern N x1 τ) := by
  unfold p_X8_pattern at hp
  refine ct_of (by decide) (by simp [Value.category]) (Nat.le_of_ble_eq_true rfl) (fun K hE F => ?_)
  subst hE
  refine rw_aload_n F dc_X8_pattern_0 rfl ?_
  refine rw_iload_n F dc_X8_pattern_1 rfl ?_
  obtain ⟨hs1, hp⟩ := hp
  refine rw_cVi F [_] dc_X8_pattern_2 mv_X8_troubleWith ml_RX8_228 (by decide) (rc_8 (by first | rfl | assumption | decide | exact r73_k (by assumption) | exact fb_k (by assumption) | exact sb_k (by assumption) | exact tb_k (by assumption) | exact sb_li (by assumption) | exact sb_s (by assumption) | exact tb_n (by assumption) | exact fb_k (sb_f (by assumption)))) rfl rfl (Nat.le_of_ble_eq_true rfl) (ct_X8_troubleWith hs1) ?_
  refine rw_istore_n F dc_X8_pattern_5 (by decide) rfl ?_
  refine rw_iload_n F dc_X8_pattern_6 rfl ?_
  refine rw_if_eq (tgt := 16) F dc_X8_pattern_7 rfl (fun c2 => ?_) (fun c2 => ?_)
  · rw [if_pos c2] at hp
    refine rw_aload_n F dc_X8_pattern_16 rfl ?_
    refine rw_getR F dc_X8_pattern_17 fl_RX8_66 (by first | rfl | assumption | decide | exact r73_k (by assumption) | exact fb_k (by assumption) | exact sb_k (by assumption) | exact tb_k (by assumption) | exact sb_li (by assumption) | exact sb_s (by assumption) | exact tb_n (by assumption) | exact fb_k (sb_f (by assumption))) (by first | rfl | assumption | exact lk6 (by assumption) _ | exact lk2 (by assumption) _ | exact fb_l0 (by assumption) | exact fb_l1 (by assumption) | exact sb_l0 (by assumption) | exact sb_l1 (by assumption) | exact sb_l2 (by assumption) | exact sb_l3 (by assumption) | exact tb_l0 (by assumption) | exact tb_l1 (by assumption) | exact tb_l2 (by assumption) | exact lk2 (sb_li (by assumption)) _ | exact fb_l0 (sb_f (by assumption)) | exact fb_l1 (sb_f (by assumption))) ?_
    refine rw_aload_n F dc_X8_pattern_20 rfl ?_
    refine rw_getR F dc_X8_pattern_21 fl_RX8_32 (by first | rfl | assumption | decide | exact r73_k (by assumption) | exact fb_k (by assumption) | exact sb_k (by assumption) | exact tb_k (by assumption) | exact sb_li (by assumption) | exact sb_s (by assumption) | exact tb_n (by assumption) | exact fb_k (sb_f (by assumption))) (by first | rfl | assumption | exact lk6 (by assumption) _ | exact lk2 (by assumption) _ | exact fb_l0 (by assumption) | exact fb_l1 (by assumption) | exact sb_l0 (by assumption) | exact sb_l1 (by assumption) | exact sb_l2 (by assumption) | exact sb_l3 (by assumption) | exact tb_l0 (by assumption) | exact tb_l1 (by assumption) | exact tb_l2 (by assumption) | exact lk2 (sb_li (by assumption)) _ | exact fb_l0 (sb_f (by assumption)) | exact fb_l1 (sb_f (by assumption))) ?_
    refine rw_iload_n F dc_X8_pattern_24 rfl ?_
    obtain ⟨hs3, hp⟩ := hp
    refine rw_aaSheet F dc_X8_pattern_25 hs3 (fun hk4 => ?_)
    refine rw_aload_n F dc_X8_pattern_26 rfl ?_
    refine rw_getR F dc_X8_pattern_27 fl_RX8_12 (by first | rfl | assumption | decide | exact r73_k (by assumption) | exact fb_k (by assumption) | exact sb_k (by assumption) | exact tb_k (by assumption) | exact sb_li (by assumption) | exact sb_s (by assumption) | exact tb_n (by assumption) | exact fb_k (sb_f (by assumption))) (by first | rfl | assumption | exact lk6 (by assumption) _ | exact lk2 (by assumption) _ | exact fb_l0 (by assumption) | exact fb_l1 (by assumption) | exact sb_l0 (by assumption) | exact sb_l1 (by assumption) | exact sb_l2 (by assumption) | exact sb_l3 (by assumption) | exact tb_l0 (by assumption) | exact tb_l1 (by assumption) | exact tb_l2 (by assumption) | exact lk2 (sb_li (by assumption)) _ | exact fb_l0 (sb_f (by assumption)) | exact fb_l1 (sb_f (by assumption))) ?_
    refine rw_getR F dc_X8_pattern_30 fl_RX8_87 (by first | rfl | assumption | decide | exact r73_k (by assumption) | exact fb_k (by assumption) | exact sb_k (by assumption) | exact tb_k (by assumption) | exact sb_li (by assumption) | exact sb_s (by assumption) | exact tb_n (by assumption) | exact fb_k (sb_f (by assumption))) (by first | rfl | assumption | exact lk6 (by assumption) _ | exact lk2 (by assumption) _ | exact fb_l0 (by assumption) | exact fb_l1 (by assumption) | exact sb_l0 (by assumption) | exact sb_l1 (by assumption) | exact sb_l2 (by assumption) | exact sb_l3 (by assumption) | exact tb_l0 (by assumption) | exact tb_l1 (by assumption) | exact tb_l2 (by assumption) | exact lk2 (sb_li (by assumption)) _ | exact fb_l0 (sb_f (by assumption)) | exact fb_l1 (sb_f (by assumption))) ?_
    obtain ⟨hs5, hp⟩ := hp
    refine rw_cVv F [_, _] dc_X8_pattern_33 mv_X0_hear ml_RX8_235 (by decide) (rc_0 (by first | rfl | assumption | decide | exact r73_k (by assumption) | exact fb_k (by assumption) | exact sb_k (by assumption) | exact tb_k (by assumption) | exact sb_li (by assumption) | exact sb_s (by assumption) | exact tb_n (by assumption) | exact fb_k (sb_f (by assumption)))) rfl rfl (Nat.le_of_ble_eq_true rfl) (cr_X0_hear hs5) ?_
    refine rw_aload_n F dc_X8_pattern_36 rfl ?_
    refine rw_getR F dc_X8_pattern_37 fl_RX8_66 (by first | rfl | assumption | decide | exact r73_k (by assumption) | exact fb_k (by assumption) | exact sb_k (by assumption) | exact tb_k (by assumption) | exact sb_li (by assumption) | exact sb_s (by assumption) | exact tb_n (by assumption) | exact fb_k (sb_f (by assumption))) (by first | rfl | assumption | exact lk6 (by assumption) _ | exact lk2 (by assumption) _ | exact fb_l0 (by assumption) | exact fb_l1 (by assumption) | exact sb_l0 (by assumption) | exact sb_l1 (by assumption) | exact sb_l2 (by assumption) | exact sb_l3 (by assumption) | exact tb_l0 (by assumption) | exact tb_l1 (by assumption) | exact tb_l2 (by assumption) | exact lk2 (sb_li (by assumption)) _ | exact fb_l0 (sb_f (by assumption)) | exact fb_l1 (sb_f (by assumption))) ?_
    refine rw_cVi F [] dc_X8_pattern_40 mv_X0_canBeMet ml_RX8_239 (by decide) (rc_0 (by first | rfl | assumption | decide | exact r73_k (by assumption) | exact fb_k (by assumption) | exact sb_k (by assumption) | exact tb_k (by assumption) | exact sb_li (by assumption) | exact sb_s (by assumption) | exact tb_n (by assumption) | exact fb_k (sb_f (by assumption)))) rfl rfl (Nat.le_of_ble_eq_true rfl) ct_X0_canBeMet ?_
    refine rw_if_eq (tgt := 56) F dc_X8_pattern_43 rfl (fun c6 => ?_) (fun c6 => ?_)
    · refine rw_aload_n F dc_X8_pattern_56 rfl ?_
      refine rw_ldc F dc_X8_pattern_57 kc_RX8_196 ?_
      refine rw_cVi F [_] dc_X8_pattern_59 mv_X8_found ml_RX8_83 (by decide) (rc_8 (by first | rfl | assumption | decide | exact r73_k (by assumption) | exact fb_k (by assumption) | exact sb_k (by assumption) | exact tb_k (by assumption) | exact sb_li (by assumption) | exact sb_s (by assumption) | exact tb_n (by assumption) | exact fb_k (sb_f (by assumption)))) rfl rfl (Nat.le_of_ble_eq_true rfl) cn_X8_found ?_
      refine rw_iret F dc_X8_pattern_62 rfl rfl ?_
      exact ⟨by first | (simp only [f_X8_pattern, g_X8_pattern, if_pos c2, if_pos c6]; done) | rfl | (simp only [f_X8_pattern, g_X8_pattern, if_pos c2, if_pos c6]; rfl), by first | (simp only [f_X8_pattern, g_X8_pattern, if_pos c2, if_pos c6]; done) | rfl | (simp only [f_X8_pattern, g_X8_pattern, if_pos c2, if_pos c6]; rfl)⟩
    · refine rw_aload_n F dc_X8_pattern_46 rfl ?_
      refine rw_getR F dc_X8_pattern_47 fl_RX8_66 (by first | rfl | assumption | decide | exact r73_k (by assumption) | exact fb_k (by assumption) | exact sb_k (by assumption) | exact tb_k (by assumption) | exact sb_li (by assumption) | exact sb_s (by assumption) | exact tb_n (by assumption) | exact fb_k (sb_f (by assumption))) (by first | rfl | assumption | exact lk6 (by assumption) _ | exact lk2 (by assumption) _ | exact fb_l0 (by assumption) | exact fb_l1 (by assumption) | exact sb_l0 (by assumption) | exact sb_l1 (by assumption) | exact sb_l2 (by assumption) | exact sb_l3 (by assumption) | exact tb_l0 (by assumption) | exact tb_l1 (by assumption) | exact tb_l2 (by assumption) | exact lk2 (sb_li (by assumption)) _ | exact fb_l0 (sb_f (by assumption)) | exact fb_l1 (sb_f (by assumption))) ?_
      refine rw_getI F dc_X8_pattern_50 fl_RX8_245 (by first | rfl | assumption | decide | exact r73_k (by assumption) | exact fb_k (by assumption) | exact sb_k (by assumption) | exact tb_k (by assumption) | exact sb_li (by assumption) | exact sb_s (by assumption) | exact tb_n (by assumption) | exact fb_k (sb_f (by assumption))) (by first | rfl | assumption | exact lk6 (by assumption) _ | exact lk2 (by assumption) _ | exact fb_l0 (by assumption) | exact fb_l1 (by assumption) | exact sb_l0 (by assumption) | exact sb_l1 (by assumption) | exact sb_l2 (by assumption) | exact sb_l3 (by assumption) | exact tb_l0 (by assumption) | exact tb_l1 (by assumption) | exact tb_l2 (by assumption) | exact lk2 (sb_li (by assumption)) _ | exact fb_l0 (sb_f (by assumption)) | exact fb_l1 (sb_f (by assumption))) ?_
      refine rw_goto (tgt := 62) F dc_X8_pattern_53 rfl ?_
      refine rw_iret F dc_X8_pattern_62 rfl rfl ?_
      exact ⟨by first | (simp only [f_X8_pattern, g_X8_pattern, if_pos c2, if_neg c6]; done) | rfl | (simp only [f_X8_pattern, g_X8_pattern, if_pos c2, if_neg c6]; rfl), by first | (simp only [f_X8_pattern, g_X8_pattern, if_pos c2, if_neg c6]; done) | rfl | (simp only [f_X8_pattern, g_X8_pattern, if_pos c2, if_neg c6]; rfl)⟩
  · rw [if_neg c2] at hp
    refine rw_aload_n F dc_X8_pattern_10 rfl ?_
    refine rw_iload_n F dc_X8_pattern_11 rfl ?_
    refine rw_cVi F [_] dc_X8_pattern_12 mv_X8_found ml_RX8_83 (by decide) (rc_8 (by first | rfl | assumption | decide | exact r73_k (by assumption) | exact fb_k (by assumption) | exact sb_k (by assumption) | exact tb_k (by assumption) | exact sb_li (by assumption) | exact sb_s (by assumption) | exact tb_n (by assumption) | exact fb_k (sb_f (by assumption)))) rfl rfl (Nat.le_of_ble_eq_true rfl) cn_X8_found ?_
    refine rw_iret F dc_X8_pattern_15 rfl rfl ?_
    exact ⟨by first | (simp only [f_X8_pattern, g_X8_pattern, if_neg c2]; done) | rfl | (simp only [f_X8_pattern, g_X8_pattern, if_neg c2]; rfl), by first | (simp only [f_X8_pattern, g_X8_pattern, if_neg c2]; done) | rfl | (simp only [f_X8_pattern, g_X8_pattern, if_neg c2]; rfl)⟩
def lf_X8_nights_43 (N : Nat)  : Nat → Int32 → Int32 → tw_T → Int32
  | 0, _, _, _ => 0
  | n + 1, x1, x2, τ => if x1 ≤ x2 then (f_X1_strandedOfAll N 3 τ) else (lf_X8_nights_43 N n x1 (x2 + 1) (g_X4_passNight N 1 τ))
def lg_X8_nights_43 (N : Nat)  : Nat → Int32 → Int32 → tw_T → tw_T
  | 0, _, _, τ => τ
  | n + 1, x1, x2, τ => if x1 ≤ x2 then τ else (lg_X8_nights_43 N n x1 (x2 + 1) (g_X4_passNight N 1 τ))
def lo_X8_nights_43 (N : Nat)  : Nat → Int32 → Int32 → tw_T → Prop
  | 0, _, _, _ => False
  | n + 1, x1, x2, τ => if x1 ≤ x2 then (p_X1_strandedOfAll N 3 τ ∧ True) else (p_X4_passNight N 1 τ ∧ (lo_X8_nights_43 N n x1 (x2 + 1) (g_X4_passNight N 1 τ)))
def f_X8_nights (N : Nat)  (x1 : Int32) (τ : tw_T) : Int32 := if (f_X8_within x1 1 20 τ) = (0 : Int32) then ((-1000001)) else (if ((τ 2 4) + x1) ≤ (99999 : Int32) then (lf_X8_nights_43 N N x1 0 τ) else ((-1000005)))
def g_X8_nights (N : Nat)  (x1 : Int32) (τ : tw_T) : tw_T := if (f_X8_within x1 1 20 τ) = (0 : Int32) then (g_X8_found ((-1000001)) τ) else (if ((τ 2 4) + x1) ≤ (99999 : Int32) then (lg_X8_nights_43 N N x1 0 τ) else (g_X8_found ((-1000005)) τ))
def p_X8_nights (N : Nat)  (x1 : Int32) (τ : tw_T) : Prop := if (f_X8_within x1 1 20 τ) = (0 : Int32) then True else (if ((τ 2 4) + x1) ≤ (99999 : Int32) then (lo_X8_nights_43 N N x1 0 τ) else True)
theorem lp_X8_nights_43 {K : tw_K} {Q : Option Value → tw_T → Prop} (F : tw_F K mX8_nights 7 Q)   (N : Nat)  : ∀ (n : Nat) (x1 : Int32) (x2 : Int32) (τ : tw_T), lo_X8_nights_43 N n x1 x2 τ → Q (some (.int (lf_X8_nights_43 N n x1 x2 τ))) (lg_X8_nights_43 N n x1 x2 τ) → tw_R K 43 [.ref 0, .int x1, .int x2] [] τ := by
  intro n
  induction n with
  | zero => intro x1 x2 τ hp _; exact False.elim hp
  | succ n ih =>
    intro x1 x2 τ hp hq
    simp only [lo_X8_nights_43] at hp
    simp only [lf_X8_nights_43, lg_X8_nights_43] at hq
    refine rw_iload_n F dc_X8_nights_43 rfl ?_
    refine rw_iload_n F dc_X8_nights_44 rfl ?_
    refine rw_icmp_ge (tgt := 61) F dc_X8_nights_45 rfl (fun c1 => ?_) (fun c1 => ?_)
    · rw [if_pos c1] at hp
      refine rw_aload_n F dc_X8_nights_61 rfl ?_
      refine rw_getR F dc_X8_nights_62 fl_RX8_12 (by first | rfl | assumption | decide | exact r73_k (by assumption) | exact fb_k (by assumption) | exact sb_k (by assumption) | exact tb_k (by assumption) | exact sb_li (by assumption) | exact sb_s (by assumption) | exact tb_n (by assumption) | exact fb_k (sb_f (by assumption))) (by first | rfl | assumption | exact lk6 (by assumption) _ | exact lk2 (by assumption) _ | exact fb_l0 (by assumption) | exact fb_l1 (by assumption) | exact sb_l0 (by assumption) | exact sb_l1 (by assumption) | exact sb_l2 (by assumption) | exact sb_l3 (by assumption) | exact tb_l0 (by assumption) | exact tb_l1 (by assumption) | exact tb_l2 (by assumption) | exact lk2 (sb_li (by assumption)) _ | exact fb_l0 (sb_f (by assumption)) | exact fb_l1 (sb_f (by assumption))) ?_
      refine rw_getR F dc_X8_nights_65 fl_RX8_101 (by first | rfl | assumption | decide | exact r73_k (by assumption) | exact fb_k (by assumption) | exact sb_k (by assumption) | exact tb_k (by assumption) | exact sb_li (by assumption) | exact sb_s (by assumption) | exact tb_n (by assumption) | exact fb_k (sb_f (by assumption))) (by first | rfl | assumption | exact lk6 (by assumption) _ | exact lk2 (by assumption) _ | exact fb_l0 (by assumption) | exact fb_l1 (by assumption) | exact sb_l0 (by assumption) | exact sb_l1 (by assumption) | exact sb_l2 (by assumption) | exact sb_l3 (by assumption) | exact tb_l0 (by assumption) | exact tb_l1 (by assumption) | exact tb_l2 (by assumption) | exact lk2 (sb_li (by assumption)) _ | exact fb_l0 (sb_f (by assumption)) | exact fb_l1 (sb_f (by assumption))) ?_
      obtain ⟨hs2, hp⟩ := hp
      refine rw_cVi F [] dc_X8_nights_68 mv_X1_strandedOfAll ml_RX8_151 (by decide) (rc_1 (by first | rfl | assumption | decide | exact r73_k (by assumption) | exact fb_k (by assumption) | exact sb_k (by assumption) | exact tb_k (by assumption) | exact sb_li (by assumption) | exact sb_s (by assumption) | exact tb_n (by assumption) | exact fb_k (sb_f (by assumption)))) rfl rfl (Nat.le_of_ble_eq_true rfl) (cr_X1_strandedOfAll hs2) ?_
      refine rw_iret F dc_X8_nights_71 rfl rfl ?_
      exact (by simpa only [if_pos c1] using hq)
    · rw [if_neg c1] at hp
      refine rw_aload_n F dc_X8_nights_48 rfl ?_
      refine rw_getR F dc_X8_nights_49 fl_RX8_12 (by first | rfl | assumption | decide | exact r73_k (by assumption) | exact fb_k (by assumption) | exact sb_k (by assumption) | exact tb_k (by assumption) | exact sb_li (by assumption) | exact sb_s (by assumption) | exact tb_n (by assumption) | exact fb_k (sb_f (by assumption))) (by first | rfl | assumption | exact lk6 (by assumption) _ | exact lk2 (by assumption) _ | exact fb_l0 (by assumption) | exact fb_l1 (by assumption) | exact sb_l0 (by assumption) | exact sb_l1 (by assumption) | exact sb_l2 (by assumption) | exact sb_l3 (by assumption) | exact tb_l0 (by assumption) | exact tb_l1 (by assumption) | exact tb_l2 (by assumption) | exact lk2 (sb_li (by assumption)) _ | exact fb_l0 (sb_f (by assumption)) | exact fb_l1 (sb_f (by assumption))) ?_
      obtain ⟨hs3, hp⟩ := hp
      refine rw_cVv F [] dc_X8_nights_52 mv_X4_passNight ml_RX8_255 (by decide) (rc_4 (by first | rfl | assumption | decide | exact r73_k (by assumption) | exact fb_k (by assumption) | exact sb_k (by assumption) | exact tb_k (by assumption) | exact sb_li (by assumption) | exact sb_s (by assumption) | exact tb_n (by assumption) | exact fb_k (sb_f (by assumption)))) rfl rfl (Nat.le_of_ble_eq_true rfl) (ct_X4_passNight hs3) ?_
      refine rw_inc (n1 := 1) F dc_X8_nights_55 rfl rfl (by decide) rfl ?_
      refine rw_goto (tgt := 43) F dc_X8_nights_58 rfl ?_
      exact ih _ _ _ hp (by simpa only [if_neg c1] using hq)
theorem cr_X8_nights {E : tw_E}  {N : Nat}  {x1 : Int32} {τ : tw_T} (hp : p_X8_nights N x1 τ)  : tw_Ci E 7 mX8_nights [.ref 0, .int x1] τ (f_X8_nights N x1 τ) (g_X8_nights N x1 τ) := by
  unfold p_X8_nights at hp
  refine ct_of (by decide) (by simp [Value.category]) (Nat.le_of_ble_eq_true rfl) (fun K hE F => ?_)
  subst hE
  refine rw_iload_n F dc_X8_nights_0 rfl ?_
  refine rw_iconst (v := 1) F dc_X8_nights_1 rfl ?_
  refine rw_bipush (v := 20) F dc_X8_nights_2 rfl ?_
  refine rw_cSi F [_, _, _] dc_X8_nights_4 ms_X8_within ml_RX8_97 (by decide)  rfl rfl (Nat.le_of_ble_eq_true rfl) ct_X8_within ?_
  refine rw_if_ne (tgt := 17) F dc_X8_nights_7 rfl (fun c1 => ?_) (fun c1 => ?_)
  · rw [if_neg c1] at hp
    refine rw_aload_n F dc_X8_nights_17 rfl ?_
    refine rw_getR F dc_X8_nights_18 fl_RX8_12 (by first | rfl | assumption | decide | exact r73_k (by assumption) | exact fb_k (by assumption) | exact sb_k (by assumption) | exact tb_k (by assumption) | exact sb_li (by assumption) | exact sb_s (by assumption) | exact tb_n (by assumption) | exact fb_k (sb_f (by assumption))) (by first | rfl | assumption | exact lk6 (by assumption) _ | exact lk2 (by assumption) _ | exact fb_l0 (by assumption) | exact fb_l1 (by assumption) | exact sb_l0 (by assumption) | exact sb_l1 (by assumption) | exact sb_l2 (by assumption) | exact sb_l3 (by assumption) | exact tb_l0 (by assumption) | exact tb_l1 (by assumption) | exact tb_l2 (by assumption) | exact lk2 (sb_li (by assumption)) _ | exact fb_l0 (sb_f (by assumption)) | exact fb_l1 (sb_f (by assumption))) ?_
    refine rw_getR F dc_X8_nights_21 fl_RX8_87 (by first | rfl | assumption | decide | exact r73_k (by assumption) | exact fb_k (by assumption) | exact sb_k (by assumption) | exact tb_k (by assumption) | exact sb_li (by assumption) | exact sb_s (by assumption) | exact tb_n (by assumption) | exact fb_k (sb_f (by assumption))) (by first | rfl | assumption | exact lk6 (by assumption) _ | exact lk2 (by assumption) _ | exact fb_l0 (by assumption) | exact fb_l1 (by assumption) | exact sb_l0 (by assumption) | exact sb_l1 (by assumption) | exact sb_l2 (by assumption) | exact sb_l3 (by assumption) | exact tb_l0 (by assumption) | exact tb_l1 (by assumption) | exact tb_l2 (by assumption) | exact lk2 (sb_li (by assumption)) _ | exact fb_l0 (sb_f (by assumption)) | exact fb_l1 (sb_f (by assumption))) ?_
    refine rw_getI F dc_X8_nights_24 fl_RX8_127 (by first | rfl | assumption | decide | exact r73_k (by assumption) | exact fb_k (by assumption) | exact sb_k (by assumption) | exact tb_k (by assumption) | exact sb_li (by assumption) | exact sb_s (by assumption) | exact tb_n (by assumption) | exact fb_k (sb_f (by assumption))) (by first | rfl | assumption | exact lk6 (by assumption) _ | exact lk2 (by assumption) _ | exact fb_l0 (by assumption) | exact fb_l1 (by assumption) | exact sb_l0 (by assumption) | exact sb_l1 (by assumption) | exact sb_l2 (by assumption) | exact sb_l3 (by assumption) | exact tb_l0 (by assumption) | exact tb_l1 (by assumption) | exact tb_l2 (by assumption) | exact lk2 (sb_li (by assumption)) _ | exact fb_l0 (sb_f (by assumption)) | exact fb_l1 (sb_f (by assumption))) ?_
    refine rw_iload_n F dc_X8_nights_27 rfl ?_
    refine rw_iadd F dc_X8_nights_28 ?_
    refine rw_ldc F dc_X8_nights_29 kc_RX8_146 ?_
    refine rw_icmp_le (tgt := 41) F dc_X8_nights_31 rfl (fun c2 => ?_) (fun c2 => ?_)
    · rw [if_pos c2] at hp
      refine rw_iconst (v := 0) F dc_X8_nights_41 rfl ?_
      refine rw_istore_n F dc_X8_nights_42 (by decide) rfl ?_
      exact lp_X8_nights_43 F  N N _ _ _ hp ⟨by first | (simp only [f_X8_nights, g_X8_nights, if_neg c1, if_pos c2]; done) | rfl | (simp only [f_X8_nights, g_X8_nights, if_neg c1, if_pos c2]; rfl), by first | (simp only [f_X8_nights, g_X8_nights, if_neg c1, if_pos c2]; done) | rfl | (simp only [f_X8_nights, g_X8_nights, if_neg c1, if_pos c2]; rfl)⟩
    · rw [if_neg c2] at hp
      refine rw_aload_n F dc_X8_nights_34 rfl ?_
      refine rw_ldc F dc_X8_nights_35 kc_RX8_147 ?_
      refine rw_cVi F [_] dc_X8_nights_37 mv_X8_found ml_RX8_83 (by decide) (rc_8 (by first | rfl | assumption | decide | exact r73_k (by assumption) | exact fb_k (by assumption) | exact sb_k (by assumption) | exact tb_k (by assumption) | exact sb_li (by assumption) | exact sb_s (by assumption) | exact tb_n (by assumption) | exact fb_k (sb_f (by assumption)))) rfl rfl (Nat.le_of_ble_eq_true rfl) cn_X8_found ?_
      refine rw_iret F dc_X8_nights_40 rfl rfl ?_
      exact ⟨by first | (simp only [f_X8_nights, g_X8_nights, if_neg c1, if_neg c2]; done) | rfl | (simp only [f_X8_nights, g_X8_nights, if_neg c1, if_neg c2]; rfl), by first | (simp only [f_X8_nights, g_X8_nights, if_neg c1, if_neg c2]; done) | rfl | (simp only [f_X8_nights, g_X8_nights, if_neg c1, if_neg c2]; rfl)⟩
  · rw [if_pos c1] at hp
    refine rw_aload_n F dc_X8_nights_10 rfl ?_
    refine rw_ldc F dc_X8_nights_11 kc_RX8_82 ?_
    refine rw_cVi F [_] dc_X8_nights_13 mv_X8_found ml_RX8_83 (by decide) (rc_8 (by first | rfl | assumption | decide | exact r73_k (by assumption) | exact fb_k (by assumption) | exact sb_k (by assumption) | exact tb_k (by assumption) | exact sb_li (by assumption) | exact sb_s (by assumption) | exact tb_n (by assumption) | exact fb_k (sb_f (by assumption)))) rfl rfl (Nat.le_of_ble_eq_true rfl) cn_X8_found ?_
    refine rw_iret F dc_X8_nights_16 rfl rfl ?_
    exact ⟨by first | (simp only [f_X8_nights, g_X8_nights, if_pos c1]; done) | rfl | (simp only [f_X8_nights, g_X8_nights, if_pos c1]; rfl), by first | (simp only [f_X8_nights, g_X8_nights, if_pos c1]; done) | rfl | (simp only [f_X8_nights, g_X8_nights, if_pos c1]; rfl)⟩
def f_X8_text (N : Nat)   (τ : tw_T) : Int32 := if (f_X7_readText N (g_X4_take N 31 1 τ)) < (0 : Int32) then (f_X7_readText N (g_X4_take N 31 1 τ)) else (f_X7_readText N (g_X4_take N 31 1 τ))
def g_X8_text (N : Nat)   (τ : tw_T) : tw_T := if (f_X7_readText N (g_X4_take N 31 1 τ)) < (0 : Int32) then (tw_sr (g_X7_readText N (g_X4_take N 31 1 τ)) 27 (upd ((g_X7_readText N (g_X4_take N 31 1 τ)) 27) 1 0)) else (tw_sr (g_X4_take N 1 31 (g_X7_readText N (g_X4_take N 31 1 τ))) 27 (upd ((g_X4_take N 1 31 (g_X7_readText N (g_X4_take N 31 1 τ))) 27) 1 0))
def p_X8_text (N : Nat)   (τ : tw_T) : Prop := p_X4_take N 31 1 τ ∧ (p_X7_readText N (g_X4_take N 31 1 τ) ∧ (if (f_X7_readText N (g_X4_take N 31 1 τ)) < (0 : Int32) then True else (p_X4_take N 1 31 (g_X7_readText N (g_X4_take N 31 1 τ)) ∧ True)))
theorem ct_X8_text {E : tw_E}  {N : Nat}   {τ : tw_T} (hp : p_X8_text N τ)  : tw_Ci E 10 mX8_text [.ref 0] τ (f_X8_text N τ) (g_X8_text N τ) := by
  unfold p_X8_text at hp
  refine ct_of (by decide) (by simp [Value.category]) (Nat.le_of_ble_eq_true rfl) (fun K hE F => ?_)
  subst hE
  refine rw_aload_n F dc_X8_text_0 rfl ?_
  refine rw_getR F dc_X8_text_1 fl_RX8_40 (by first | rfl | assumption | decide | exact r73_k (by assumption) | exact fb_k (by assumption) | exact sb_k (by assumption) | exact tb_k (by assumption) | exact sb_li (by assumption) | exact sb_s (by assumption) | exact tb_n (by assumption) | exact fb_k (sb_f (by assumption))) (by first | rfl | assumption | exact lk6 (by assumption) _ | exact lk2 (by assumption) _ | exact fb_l0 (by assumption) | exact fb_l1 (by assumption) | exact sb_l0 (by assumption) | exact sb_l1 (by assumption) | exact sb_l2 (by assumption) | exact sb_l3 (by assumption) | exact tb_l0 (by assumption) | exact tb_l1 (by assumption) | exact tb_l2 (by assumption) | exact lk2 (sb_li (by assumption)) _ | exact fb_l0 (sb_f (by assumption)) | exact fb_l1 (sb_f (by assumption))) ?_
  refine rw_aload_n F dc_X8_text_4 rfl ?_
  refine rw_getR F dc_X8_text_5 fl_RX8_12 (by first | rfl | assumption | decide | exact r73_k (by assumption) | exact fb_k (by assumption) | exact sb_k (by assumption) | exact tb_k (by assumption) | exact sb_li (by assumption) | exact sb_s (by assumption) | exact tb_n (by assumption) | exact fb_k (sb_f (by assumption))) (by first | rfl | assumption | exact lk6 (by assumption) _ | exact lk2 (by assumption) _ | exact fb_l0 (by assumption) | exact fb_l1 (by assumption) | exact sb_l0 (by assumption) | exact sb_l1 (by assumption) | exact sb_l2 (by assumption) | exact sb_l3 (by assumption) | exact tb_l0 (by assumption) | exact tb_l1 (by assumption) | exact tb_l2 (by assumption) | exact lk2 (sb_li (by assumption)) _ | exact fb_l0 (sb_f (by assumption)) | exact fb_l1 (sb_f (by assumption))) ?_
  obtain ⟨hs1, hp⟩ := hp
  refine rw_cVv F [_] dc_X8_text_8 mv_X4_take ml_RX8_273 (by decide) (rc_4 (by first | rfl | assumption | decide | exact r73_k (by assumption) | exact fb_k (by assumption) | exact sb_k (by assumption) | exact tb_k (by assumption) | exact sb_li (by assumption) | exact sb_s (by assumption) | exact tb_n (by assumption) | exact fb_k (sb_f (by assumption)))) rfl rfl (Nat.le_of_ble_eq_true rfl) (ct_X4_take hs1) ?_
  refine rw_aload_n F dc_X8_text_11 rfl ?_
  refine rw_getR F dc_X8_text_12 fl_RX8_26 (by first | rfl | assumption | decide | exact r73_k (by assumption) | exact fb_k (by assumption) | exact sb_k (by assumption) | exact tb_k (by assumption) | exact sb_li (by assumption) | exact sb_s (by assumption) | exact tb_n (by assumption) | exact fb_k (sb_f (by assumption))) (by first | rfl | assumption | exact lk6 (by assumption) _ | exact lk2 (by assumption) _ | exact fb_l0 (by assumption) | exact fb_l1 (by assumption) | exact sb_l0 (by assumption) | exact sb_l1 (by assumption) | exact sb_l2 (by assumption) | exact sb_l3 (by assumption) | exact tb_l0 (by assumption) | exact tb_l1 (by assumption) | exact tb_l2 (by assumption) | exact lk2 (sb_li (by assumption)) _ | exact fb_l0 (sb_f (by assumption)) | exact fb_l1 (sb_f (by assumption))) ?_
  refine rw_aload_n F dc_X8_text_15 rfl ?_
  refine rw_getR F dc_X8_text_16 fl_RX8_40 (by first | rfl | assumption | decide | exact r73_k (by assumption) | exact fb_k (by assumption) | exact sb_k (by assumption) | exact tb_k (by assumption) | exact sb_li (by assumption) | exact sb_s (by assumption) | exact tb_n (by assumption) | exact fb_k (sb_f (by assumption))) (by first | rfl | assumption | exact lk6 (by assumption) _ | exact lk2 (by assumption) _ | exact fb_l0 (by assumption) | exact fb_l1 (by assumption) | exact sb_l0 (by assumption) | exact sb_l1 (by assumption) | exact sb_l2 (by assumption) | exact sb_l3 (by assumption) | exact tb_l0 (by assumption) | exact tb_l1 (by assumption) | exact tb_l2 (by assumption) | exact lk2 (sb_li (by assumption)) _ | exact fb_l0 (sb_f (by assumption)) | exact fb_l1 (sb_f (by assumption))) ?_
  obtain ⟨hs2, hp⟩ := hp
  refine rw_cVi F [_] dc_X8_text_19 mv_X7_readText ml_RX8_276 (by decide) (rc_7 (by first | rfl | assumption | decide | exact r73_k (by assumption) | exact fb_k (by assumption) | exact sb_k (by assumption) | exact tb_k (by assumption) | exact sb_li (by assumption) | exact sb_s (by assumption) | exact tb_n (by assumption) | exact fb_k (sb_f (by assumption)))) rfl rfl (Nat.le_of_ble_eq_true rfl) (cr_X7_readText hs2) ?_
  refine rw_istore_n F dc_X8_text_22 (by decide) rfl ?_
  refine rw_iload_n F dc_X8_text_23 rfl ?_
  refine rw_if_lt (tgt := 38) F dc_X8_text_24 rfl (fun c3 => ?_) (fun c3 => ?_)
  · rw [if_pos c3] at hp
    refine rw_aload_n F dc_X8_text_38 rfl ?_
    refine rw_getR F dc_X8_text_39 fl_RX8_26 (by first | rfl | assumption | decide | exact r73_k (by assumption) | exact fb_k (by assumption) | exact sb_k (by assumption) | exact tb_k (by assumption) | exact sb_li (by assumption) | exact sb_s (by assumption) | exact tb_n (by assumption) | exact fb_k (sb_f (by assumption))) (by first | rfl | assumption | exact lk6 (by assumption) _ | exact lk2 (by assumption) _ | exact fb_l0 (by assumption) | exact fb_l1 (by assumption) | exact sb_l0 (by assumption) | exact sb_l1 (by assumption) | exact sb_l2 (by assumption) | exact sb_l3 (by assumption) | exact tb_l0 (by assumption) | exact tb_l1 (by assumption) | exact tb_l2 (by assumption) | exact lk2 (sb_li (by assumption)) _ | exact fb_l0 (sb_f (by assumption)) | exact fb_l1 (sb_f (by assumption))) ?_
    refine rw_iconst (v := 0) F dc_X8_text_42 rfl ?_
    refine rw_put F dc_X8_text_43 pf_RX8_268 (by first | rfl | assumption | decide | exact r73_k (by assumption) | exact fb_k (by assumption) | exact sb_k (by assumption) | exact tb_k (by assumption) | exact sb_li (by assumption) | exact sb_s (by assumption) | exact tb_n (by assumption) | exact fb_k (sb_f (by assumption))) (by first | rfl | assumption | exact lk6 (by assumption) _ | exact lk2 (by assumption) _ | exact fb_l0 (by assumption) | exact fb_l1 (by assumption) | exact sb_l0 (by assumption) | exact sb_l1 (by assumption) | exact sb_l2 (by assumption) | exact sb_l3 (by assumption) | exact tb_l0 (by assumption) | exact tb_l1 (by assumption) | exact tb_l2 (by assumption) | exact lk2 (sb_li (by assumption)) _ | exact fb_l0 (sb_f (by assumption)) | exact fb_l1 (sb_f (by assumption))) rfl rfl ?_
    refine rw_iload_n F dc_X8_text_46 rfl ?_
    refine rw_iret F dc_X8_text_47 rfl rfl ?_
    exact ⟨by first | (simp only [f_X8_text, g_X8_text, if_pos c3]; done) | rfl | (simp only [f_X8_text, g_X8_text, if_pos c3]; rfl), by first | (simp only [f_X8_text, g_X8_text, if_pos c3]; done) | rfl | (simp only [f_X8_text, g_X8_text, if_pos c3]; rfl)⟩
  · rw [if_neg c3] at hp
    refine rw_aload_n F dc_X8_text_27 rfl ?_
    refine rw_getR F dc_X8_text_28 fl_RX8_12 (by first | rfl | assumption | decide | exact r73_k (by assumption) | exact fb_k (by assumption) | exact sb_k (by assumption) | exact tb_k (by assumption) | exact sb_li (by assumption) | exact sb_s (by assumption) | exact tb_n (by assumption) | exact fb_k (sb_f (by assumption))) (by first | rfl | assumption | exact lk6 (by assumption) _ | exact lk2 (by assumption) _ | exact fb_l0 (by assumption) | exact fb_l1 (by assumption) | exact sb_l0 (by assumption) | exact sb_l1 (by assumption) | exact sb_l2 (by assumption) | exact sb_l3 (by assumption) | exact tb_l0 (by assumption) | exact tb_l1 (by assumption) | exact tb_l2 (by assumption) | exact lk2 (sb_li (by assumption)) _ | exact fb_l0 (sb_f (by assumption)) | exact fb_l1 (sb_f (by assumption))) ?_
    refine rw_aload_n F dc_X8_text_31 rfl ?_
    refine rw_getR F dc_X8_text_32 fl_RX8_40 (by first | rfl | assumption | decide | exact r73_k (by assumption) | exact fb_k (by assumption) | exact sb_k (by assumption) | exact tb_k (by assumption) | exact sb_li (by assumption) | exact sb_s (by assumption) | exact tb_n (by assumption) | exact fb_k (sb_f (by assumption))) (by first | rfl | assumption | exact lk6 (by assumption) _ | exact lk2 (by assumption) _ | exact fb_l0 (by assumption) | exact fb_l1 (by assumption) | exact sb_l0 (by assumption) | exact sb_l1 (by assumption) | exact sb_l2 (by assumption) | exact sb_l3 (by assumption) | exact tb_l0 (by assumption) | exact tb_l1 (by assumption) | exact tb_l2 (by assumption) | exact lk2 (sb_li (by assumption)) _ | exact fb_l0 (sb_f (by assumption)) | exact fb_l1 (sb_f (by assumption))) ?_
    obtain ⟨hs4, hp⟩ := hp
    refine rw_cVv F [_] dc_X8_text_35 mv_X4_take ml_RX8_273 (by decide) (rc_4 (by first | rfl | assumption | decide | exact r73_k (by assumption) | exact fb_k (by assumption) | exact sb_k (by assumption) | exact tb_k (by assumption) | exact sb_li (by assumption) | exact sb_s (by assumption) | exact tb_n (by assumption) | exact fb_k (sb_f (by assumption)))) rfl rfl (Nat.le_of_ble_eq_true rfl) (ct_X4_take hs4) ?_
    refine rw_aload_n F dc_X8_text_38 rfl ?_
    refine rw_getR F dc_X8_text_39 fl_RX8_26 (by first | rfl | assumption | decide | exact r73_k (by assumption) | exact fb_k (by assumption) | exact sb_k (by assumption) | exact tb_k (by assumption) | exact sb_li (by assumption) | exact sb_s (by assumption) | exact tb_n (by assumption) | exact fb_k (sb_f (by assumption))) (by first | rfl | assumption | exact lk6 (by assumption) _ | exact lk2 (by assumption) _ | exact fb_l0 (by assumption) | exact fb_l1 (by assumption) | exact sb_l0 (by assumption) | exact sb_l1 (by assumption) | exact sb_l2 (by assumption) | exact sb_l3 (by assumption) | exact tb_l0 (by assumption) | exact tb_l1 (by assumption) | exact tb_l2 (by assumption) | exact lk2 (sb_li (by assumption)) _ | exact fb_l0 (sb_f (by assumption)) | exact fb_l1 (sb_f (by assumption))) ?_
    refine rw_iconst (v := 0) F dc_X8_text_42 rfl ?_
    refine rw_put F dc_X8_text_43 pf_RX8_268 (by first | rfl | assumption | decide | exact r73_k (by assumption) | exact fb_k (by assumption) | exact sb_k (by assumption) | exact tb_k (by assumption) | exact sb_li (by assumption) | exact sb_s (by assumption) | exact tb_n (by assumption) | exact fb_k (sb_f (by assumption))) (by first | rfl | assumption | exact lk6 (by assumption) _ | exact lk2 (by assumption) _ | exact fb_l0 (by assumption) | exact fb_l1 (by assumption) | exact sb_l0 (by assumption) | exact sb_l1 (by assumption) | exact sb_l2 (by assumption) | exact sb_l3 (by assumption) | exact tb_l0 (by assumption) | exact tb_l1 (by assumption) | exact tb_l2 (by assumption) | exact lk2 (sb_li (by assumption)) _ | exact fb_l0 (sb_f (by assumption)) | exact fb_l1 (sb_f (by assumption))) rfl rfl ?_
    refine rw_iload_n F dc_X8_text_46 rfl ?_
    refine rw_iret F dc_X8_text_47 rfl rfl ?_
    exact ⟨by first | (simp only [f_X8_text, g_X8_text, if_neg c3]; done) | rfl | (simp only [f_X8_text, g_X8_text, if_neg c3]; rfl), by first | (simp only [f_X8_text, g_X8_text, if_neg c3]; done) | rfl | (simp only [f_X8_text, g_X8_text, if_neg c3]; rfl)⟩
