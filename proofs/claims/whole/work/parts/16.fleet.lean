def f_X1_isFull (f : Nat)  (τ : tw_T) : Int32 := if (τ f 1) < (8 : Int32) then 0 else 1
theorem ct_X1_isFull {E : tw_E} {f : Nat}   {τ : tw_T}  (hf : tw_fb f := by first | assumption | exact (show _ ∈ tw_fbL by decide) | exact sb_f (by assumption)) : tw_Ci E 1 mX1_isFull [.ref f] τ (f_X1_isFull f τ) (τ) := by
  refine ct_of (by decide) (by simp [Value.category]) (Nat.le_of_ble_eq_true rfl) (fun K hE F => ?_)
  subst hE
  refine rw_aload_n F dc_X1_isFull_0 rfl ?_
  refine rw_getI F dc_X1_isFull_1 fl_RX1_17 (by first | rfl | assumption | decide | exact r73_k (by assumption) | exact fb_k (by assumption) | exact sb_k (by assumption) | exact tb_k (by assumption) | exact sb_li (by assumption) | exact sb_s (by assumption) | exact tb_n (by assumption) | exact fb_k (sb_f (by assumption))) (by first | rfl | assumption | exact lk6 (by assumption) _ | exact lk2 (by assumption) _ | exact fb_l0 (by assumption) | exact fb_l1 (by assumption) | exact sb_l0 (by assumption) | exact sb_l1 (by assumption) | exact sb_l2 (by assumption) | exact sb_l3 (by assumption) | exact tb_l0 (by assumption) | exact tb_l1 (by assumption) | exact tb_l2 (by assumption) | exact lk2 (sb_li (by assumption)) _ | exact fb_l0 (sb_f (by assumption)) | exact fb_l1 (sb_f (by assumption))) ?_
  refine rw_bipush (v := 8) F dc_X1_isFull_4 rfl ?_
  refine rw_icmp_lt (tgt := 13) F dc_X1_isFull_6 rfl (fun c1 => ?_) (fun c1 => ?_)
  · refine rw_iconst (v := 0) F dc_X1_isFull_13 rfl ?_
    refine rw_iret F dc_X1_isFull_14 rfl rfl ?_
    exact ⟨by first | (simp only [f_X1_isFull, if_pos c1]; done) | rfl | (simp only [f_X1_isFull, if_pos c1]; rfl), by first | (simp only [f_X1_isFull, if_pos c1]; done) | rfl | (simp only [f_X1_isFull, if_pos c1]; rfl)⟩
  · refine rw_iconst (v := 1) F dc_X1_isFull_9 rfl ?_
    refine rw_goto (tgt := 14) F dc_X1_isFull_10 rfl ?_
    refine rw_iret F dc_X1_isFull_14 rfl rfl ?_
    exact ⟨by first | (simp only [f_X1_isFull, if_neg c1]; done) | rfl | (simp only [f_X1_isFull, if_neg c1]; rfl), by first | (simp only [f_X1_isFull, if_neg c1]; done) | rfl | (simp only [f_X1_isFull, if_neg c1]; rfl)⟩
def g_X1_launch (f : Nat) (x1 : Int32) (x2 : Int32) (τ : tw_T) : tw_T := if (f_X1_isFull f τ) = (0 : Int32) then (tw_sr (g_X6_renew (f + 2 + (τ f 1).toNatClampNeg) x1 x2 τ) f (upd ((g_X6_renew (f + 2 + (τ f 1).toNatClampNeg) x1 x2 τ) f) 1 (((g_X6_renew (f + 2 + (τ f 1).toNatClampNeg) x1 x2 τ) f 1) + 1))) else τ
def p_X1_launch (f : Nat) (x1 : Int32) (x2 : Int32) (τ : tw_T) : Prop := if (f_X1_isFull f τ) = (0 : Int32) then (vp_in (τ f 1) 8 ∧ True) else True
theorem ct_X1_launch {E : tw_E} {f : Nat}  {x1 : Int32} {x2 : Int32} {τ : tw_T} (hp : p_X1_launch f x1 x2 τ) (hf : tw_fb f := by first | assumption | exact (show _ ∈ tw_fbL by decide) | exact sb_f (by assumption)) : tw_Cv E 2 mX1_launch [.ref f, .int x1, .int x2] τ (g_X1_launch f x1 x2 τ) := by
  unfold p_X1_launch at hp
  refine ct_of (by decide) (by simp [Value.category]) (Nat.le_of_ble_eq_true rfl) (fun K hE F => ?_)
  subst hE
  refine rw_aload_n F dc_X1_launch_0 rfl ?_
  refine rw_cVi F [] dc_X1_launch_1 mv_X1_isFull ml_RX1_26 (by decide) (rc_1 (by first | rfl | assumption | decide | exact r73_k (by assumption) | exact fb_k (by assumption) | exact sb_k (by assumption) | exact tb_k (by assumption) | exact sb_li (by assumption) | exact sb_s (by assumption) | exact tb_n (by assumption) | exact fb_k (sb_f (by assumption)))) rfl rfl (Nat.le_of_ble_eq_true rfl) ct_X1_isFull ?_
  refine rw_if_ne (tgt := 31) F dc_X1_launch_4 rfl (fun c1 => ?_) (fun c1 => ?_)
  · rw [if_neg c1] at hp
    refine rw_vret F dc_X1_launch_31 rfl ?_
    exact ⟨rfl, by first | (simp only [g_X1_launch, if_neg c1]; done) | rfl | (simp only [g_X1_launch, if_neg c1]; rfl)⟩
  · rw [if_pos c1] at hp
    refine rw_aload_n F dc_X1_launch_7 rfl ?_
    refine rw_getR F dc_X1_launch_8 fl_RX1_11 (by first | rfl | assumption | decide | exact r73_k (by assumption) | exact fb_k (by assumption) | exact sb_k (by assumption) | exact tb_k (by assumption) | exact sb_li (by assumption) | exact sb_s (by assumption) | exact tb_n (by assumption) | exact fb_k (sb_f (by assumption))) (by first | rfl | assumption | exact lk6 (by assumption) _ | exact lk2 (by assumption) _ | exact fb_l0 (by assumption) | exact fb_l1 (by assumption) | exact sb_l0 (by assumption) | exact sb_l1 (by assumption) | exact sb_l2 (by assumption) | exact sb_l3 (by assumption) | exact tb_l0 (by assumption) | exact tb_l1 (by assumption) | exact tb_l2 (by assumption) | exact lk2 (sb_li (by assumption)) _ | exact fb_l0 (sb_f (by assumption)) | exact fb_l1 (sb_f (by assumption))) ?_
    refine rw_aload_n F dc_X1_launch_11 rfl ?_
    refine rw_getI F dc_X1_launch_12 fl_RX1_17 (by first | rfl | assumption | decide | exact r73_k (by assumption) | exact fb_k (by assumption) | exact sb_k (by assumption) | exact tb_k (by assumption) | exact sb_li (by assumption) | exact sb_s (by assumption) | exact tb_n (by assumption) | exact fb_k (sb_f (by assumption))) (by first | rfl | assumption | exact lk6 (by assumption) _ | exact lk2 (by assumption) _ | exact fb_l0 (by assumption) | exact fb_l1 (by assumption) | exact sb_l0 (by assumption) | exact sb_l1 (by assumption) | exact sb_l2 (by assumption) | exact sb_l3 (by assumption) | exact tb_l0 (by assumption) | exact tb_l1 (by assumption) | exact tb_l2 (by assumption) | exact lk2 (sb_li (by assumption)) _ | exact fb_l0 (sb_f (by assumption)) | exact fb_l1 (sb_f (by assumption))) ?_
    obtain ⟨hs2, hp⟩ := hp
    refine rw_aaShip F dc_X1_launch_15 (by first | assumption | exact (show _ ∈ tw_fbL by decide) | exact sb_f (by assumption)) hs2 (fun hk3 => ?_)
    refine rw_iload_n F dc_X1_launch_16 rfl ?_
    refine rw_iload_n F dc_X1_launch_17 rfl ?_
    refine rw_cVv F [_, _] dc_X1_launch_18 mv_X6_renew ml_RX1_30 (by decide) (rc_6 (by first | rfl | assumption | decide | exact r73_k (by assumption) | exact fb_k (by assumption) | exact sb_k (by assumption) | exact tb_k (by assumption) | exact sb_li (by assumption) | exact sb_s (by assumption) | exact tb_n (by assumption) | exact fb_k (sb_f (by assumption)))) rfl rfl (Nat.le_of_ble_eq_true rfl) ct_X6_renew ?_
    refine rw_aload_n F dc_X1_launch_21 rfl ?_
    refine rw_dup F dc_X1_launch_22 rfl ?_
    refine rw_getI F dc_X1_launch_23 fl_RX1_17 (by first | rfl | assumption | decide | exact r73_k (by assumption) | exact fb_k (by assumption) | exact sb_k (by assumption) | exact tb_k (by assumption) | exact sb_li (by assumption) | exact sb_s (by assumption) | exact tb_n (by assumption) | exact fb_k (sb_f (by assumption))) (by first | rfl | assumption | exact lk6 (by assumption) _ | exact lk2 (by assumption) _ | exact fb_l0 (by assumption) | exact fb_l1 (by assumption) | exact sb_l0 (by assumption) | exact sb_l1 (by assumption) | exact sb_l2 (by assumption) | exact sb_l3 (by assumption) | exact tb_l0 (by assumption) | exact tb_l1 (by assumption) | exact tb_l2 (by assumption) | exact lk2 (sb_li (by assumption)) _ | exact fb_l0 (sb_f (by assumption)) | exact fb_l1 (sb_f (by assumption))) ?_
    refine rw_iconst (v := 1) F dc_X1_launch_26 rfl ?_
    refine rw_iadd F dc_X1_launch_27 ?_
    refine rw_put F dc_X1_launch_28 pf_RX1_17 (by first | rfl | assumption | decide | exact r73_k (by assumption) | exact fb_k (by assumption) | exact sb_k (by assumption) | exact tb_k (by assumption) | exact sb_li (by assumption) | exact sb_s (by assumption) | exact tb_n (by assumption) | exact fb_k (sb_f (by assumption))) (by first | rfl | assumption | exact lk6 (by assumption) _ | exact lk2 (by assumption) _ | exact fb_l0 (by assumption) | exact fb_l1 (by assumption) | exact sb_l0 (by assumption) | exact sb_l1 (by assumption) | exact sb_l2 (by assumption) | exact sb_l3 (by assumption) | exact tb_l0 (by assumption) | exact tb_l1 (by assumption) | exact tb_l2 (by assumption) | exact lk2 (sb_li (by assumption)) _ | exact fb_l0 (sb_f (by assumption)) | exact fb_l1 (sb_f (by assumption))) rfl rfl ?_
    refine rw_vret F dc_X1_launch_31 rfl ?_
    exact ⟨rfl, by first | (simp only [g_X1_launch, if_pos c1]; done) | rfl | (simp only [g_X1_launch, if_pos c1]; rfl)⟩
def lg_X1_sail_2 (N : Nat) (f : Nat) : Nat → Int32 → Int32 → Int32 → tw_T → tw_T
  | 0, _, _, _, τ => τ
  | n + 1, x1, x2, x3, τ => if (τ f 1) ≤ x3 then τ else (lg_X1_sail_2 N f n x1 x2 (x3 + 1) (g_X6_sail (f + 2 + x3.toNatClampNeg) x1 x2 τ))
def lo_X1_sail_2 (N : Nat) (f : Nat) : Nat → Int32 → Int32 → Int32 → tw_T → Prop
  | 0, _, _, _, _ => False
  | n + 1, x1, x2, x3, τ => if (τ f 1) ≤ x3 then True else (vp_in x3 8 ∧ (lo_X1_sail_2 N f n x1 x2 (x3 + 1) (g_X6_sail (f + 2 + x3.toNatClampNeg) x1 x2 τ)))
def g_X1_sail (N : Nat) (f : Nat) (x1 : Int32) (x2 : Int32) (τ : tw_T) : tw_T := lg_X1_sail_2 N f N x1 x2 0 τ
def p_X1_sail (N : Nat) (f : Nat) (x1 : Int32) (x2 : Int32) (τ : tw_T) : Prop := lo_X1_sail_2 N f N x1 x2 0 τ
theorem lp_X1_sail_2 {K : tw_K} {Q : Option Value → tw_T → Prop} (F : tw_F K mX1_sail 4 Q) {f : Nat} (hf : tw_fb f) (N : Nat)  : ∀ (n : Nat) (x1 : Int32) (x2 : Int32) (x3 : Int32) (τ : tw_T), lo_X1_sail_2 N f n x1 x2 x3 τ → Q none (lg_X1_sail_2 N f n x1 x2 x3 τ) → tw_R K 2 [.ref f, .int x1, .int x2, .int x3] [] τ := by
  intro n
  induction n with
  | zero => intro x1 x2 x3 τ hp _; exact False.elim hp
  | succ n ih =>
    intro x1 x2 x3 τ hp hq
    simp only [lo_X1_sail_2] at hp
    simp only [lg_X1_sail_2] at hq
    refine rw_iload_n F dc_X1_sail_2 rfl ?_
    refine rw_aload_n F dc_X1_sail_3 rfl ?_
    refine rw_getI F dc_X1_sail_4 fl_RX1_17 (by first | rfl | assumption | decide | exact r73_k (by assumption) | exact fb_k (by assumption) | exact sb_k (by assumption) | exact tb_k (by assumption) | exact sb_li (by assumption) | exact sb_s (by assumption) | exact tb_n (by assumption) | exact fb_k (sb_f (by assumption))) (by first | rfl | assumption | exact lk6 (by assumption) _ | exact lk2 (by assumption) _ | exact fb_l0 (by assumption) | exact fb_l1 (by assumption) | exact sb_l0 (by assumption) | exact sb_l1 (by assumption) | exact sb_l2 (by assumption) | exact sb_l3 (by assumption) | exact tb_l0 (by assumption) | exact tb_l1 (by assumption) | exact tb_l2 (by assumption) | exact lk2 (sb_li (by assumption)) _ | exact fb_l0 (sb_f (by assumption)) | exact fb_l1 (sb_f (by assumption))) ?_
    refine rw_icmp_ge (tgt := 27) F dc_X1_sail_7 rfl (fun c1 => ?_) (fun c1 => ?_)
    · rw [if_pos c1] at hp
      refine rw_vret F dc_X1_sail_27 rfl ?_
      exact (by simpa only [if_pos c1] using hq)
    · rw [if_neg c1] at hp
      refine rw_aload_n F dc_X1_sail_10 rfl ?_
      refine rw_getR F dc_X1_sail_11 fl_RX1_11 (by first | rfl | assumption | decide | exact r73_k (by assumption) | exact fb_k (by assumption) | exact sb_k (by assumption) | exact tb_k (by assumption) | exact sb_li (by assumption) | exact sb_s (by assumption) | exact tb_n (by assumption) | exact fb_k (sb_f (by assumption))) (by first | rfl | assumption | exact lk6 (by assumption) _ | exact lk2 (by assumption) _ | exact fb_l0 (by assumption) | exact fb_l1 (by assumption) | exact sb_l0 (by assumption) | exact sb_l1 (by assumption) | exact sb_l2 (by assumption) | exact sb_l3 (by assumption) | exact tb_l0 (by assumption) | exact tb_l1 (by assumption) | exact tb_l2 (by assumption) | exact lk2 (sb_li (by assumption)) _ | exact fb_l0 (sb_f (by assumption)) | exact fb_l1 (sb_f (by assumption))) ?_
      refine rw_iload_n F dc_X1_sail_14 rfl ?_
      obtain ⟨hs2, hp⟩ := hp
      refine rw_aaShip F dc_X1_sail_15 (by first | assumption | exact (show _ ∈ tw_fbL by decide) | exact sb_f (by assumption)) hs2 (fun hk3 => ?_)
      refine rw_iload_n F dc_X1_sail_16 rfl ?_
      refine rw_iload_n F dc_X1_sail_17 rfl ?_
      refine rw_cVv F [_, _] dc_X1_sail_18 mv_X6_sail ml_RX1_34 (by decide) (rc_6 (by first | rfl | assumption | decide | exact r73_k (by assumption) | exact fb_k (by assumption) | exact sb_k (by assumption) | exact tb_k (by assumption) | exact sb_li (by assumption) | exact sb_s (by assumption) | exact tb_n (by assumption) | exact fb_k (sb_f (by assumption)))) rfl rfl (Nat.le_of_ble_eq_true rfl) ct_X6_sail ?_
      refine rw_inc (n1 := 1) F dc_X1_sail_21 rfl rfl (by decide) rfl ?_
      refine rw_goto (tgt := 2) F dc_X1_sail_24 rfl ?_
      exact ih _ _ _ _ hp (by simpa only [if_neg c1] using hq)
theorem cr_X1_sail {E : tw_E} {f : Nat} {N : Nat}  {x1 : Int32} {x2 : Int32} {τ : tw_T} (hp : p_X1_sail N f x1 x2 τ) (hf : tw_fb f := by first | assumption | exact (show _ ∈ tw_fbL by decide) | exact sb_f (by assumption)) : tw_Cv E 4 mX1_sail [.ref f, .int x1, .int x2] τ (g_X1_sail N f x1 x2 τ) := by
  unfold p_X1_sail at hp
  refine ct_of (by decide) (by simp [Value.category]) (Nat.le_of_ble_eq_true rfl) (fun K hE F => ?_)
  subst hE
  refine rw_iconst (v := 0) F dc_X1_sail_0 rfl ?_
  refine rw_istore_n F dc_X1_sail_1 (by decide) rfl ?_
  exact lp_X1_sail_2 F hf N N _ _ _ _ hp ⟨rfl, by first | (simp only [g_X1_sail]; done) | rfl | (simp only [g_X1_sail]; rfl)⟩
def lg_X1_take_10 (N : Nat) (f : Nat) (o : Nat) : Nat → Int32 → tw_T → tw_T
  | 0, _, τ => τ
  | n + 1, x2, τ => if (τ f 1) ≤ x2 then τ else (lg_X1_take_10 N f o n (x2 + 1) (g_X6_take (f + 2 + x2.toNatClampNeg) (o + 2 + x2.toNatClampNeg) τ))
def lo_X1_take_10 (N : Nat) (f : Nat) (o : Nat) : Nat → Int32 → tw_T → Prop
  | 0, _, _ => False
  | n + 1, x2, τ => if (τ f 1) ≤ x2 then True else (vp_in x2 8 ∧ (vp_in x2 8 ∧ (lo_X1_take_10 N f o n (x2 + 1) (g_X6_take (f + 2 + x2.toNatClampNeg) (o + 2 + x2.toNatClampNeg) τ))))
def g_X1_take (N : Nat) (f : Nat) (o : Nat)  (τ : tw_T) : tw_T := lg_X1_take_10 N f o N 0 (tw_sr τ f (upd (τ f) 1 (τ o 1)))
def p_X1_take (N : Nat) (f : Nat) (o : Nat)  (τ : tw_T) : Prop := lo_X1_take_10 N f o N 0 (tw_sr τ f (upd (τ f) 1 (τ o 1)))
theorem lp_X1_take_10 {K : tw_K} {Q : Option Value → tw_T → Prop} (F : tw_F K mX1_take 2 Q) {f : Nat} {o : Nat} (hf : tw_fb f) (ho : tw_fb o) (N : Nat)  : ∀ (n : Nat) (x2 : Int32) (τ : tw_T), lo_X1_take_10 N f o n x2 τ → Q none (lg_X1_take_10 N f o n x2 τ) → tw_R K 10 [.ref f, .ref o, .int x2] [] τ := by
  intro n
  induction n with
  | zero => intro x2 τ hp _; exact False.elim hp
  | succ n ih =>
    intro x2 τ hp hq
    simp only [lo_X1_take_10] at hp
    simp only [lg_X1_take_10] at hq
    refine rw_iload_n F dc_X1_take_10 rfl ?_
    refine rw_aload_n F dc_X1_take_11 rfl ?_
    refine rw_getI F dc_X1_take_12 fl_RX1_17 (by first | rfl | assumption | decide | exact r73_k (by assumption) | exact fb_k (by assumption) | exact sb_k (by assumption) | exact tb_k (by assumption) | exact sb_li (by assumption) | exact sb_s (by assumption) | exact tb_n (by assumption) | exact fb_k (sb_f (by assumption))) (by first | rfl | assumption | exact lk6 (by assumption) _ | exact lk2 (by assumption) _ | exact fb_l0 (by assumption) | exact fb_l1 (by assumption) | exact sb_l0 (by assumption) | exact sb_l1 (by assumption) | exact sb_l2 (by assumption) | exact sb_l3 (by assumption) | exact tb_l0 (by assumption) | exact tb_l1 (by assumption) | exact tb_l2 (by assumption) | exact lk2 (sb_li (by assumption)) _ | exact fb_l0 (sb_f (by assumption)) | exact fb_l1 (sb_f (by assumption))) ?_
    refine rw_icmp_ge (tgt := 39) F dc_X1_take_15 rfl (fun c1 => ?_) (fun c1 => ?_)
    · rw [if_pos c1] at hp
      refine rw_vret F dc_X1_take_39 rfl ?_
      exact (by simpa only [if_pos c1] using hq)
    · rw [if_neg c1] at hp
      refine rw_aload_n F dc_X1_take_18 rfl ?_
      refine rw_getR F dc_X1_take_19 fl_RX1_11 (by first | rfl | assumption | decide | exact r73_k (by assumption) | exact fb_k (by assumption) | exact sb_k (by assumption) | exact tb_k (by assumption) | exact sb_li (by assumption) | exact sb_s (by assumption) | exact tb_n (by assumption) | exact fb_k (sb_f (by assumption))) (by first | rfl | assumption | exact lk6 (by assumption) _ | exact lk2 (by assumption) _ | exact fb_l0 (by assumption) | exact fb_l1 (by assumption) | exact sb_l0 (by assumption) | exact sb_l1 (by assumption) | exact sb_l2 (by assumption) | exact sb_l3 (by assumption) | exact tb_l0 (by assumption) | exact tb_l1 (by assumption) | exact tb_l2 (by assumption) | exact lk2 (sb_li (by assumption)) _ | exact fb_l0 (sb_f (by assumption)) | exact fb_l1 (sb_f (by assumption))) ?_
      refine rw_iload_n F dc_X1_take_22 rfl ?_
      obtain ⟨hs2, hp⟩ := hp
      refine rw_aaShip F dc_X1_take_23 (by first | assumption | exact (show _ ∈ tw_fbL by decide) | exact sb_f (by assumption)) hs2 (fun hk3 => ?_)
      refine rw_aload_n F dc_X1_take_24 rfl ?_
      refine rw_getR F dc_X1_take_25 fl_RX1_11 (by first | rfl | assumption | decide | exact r73_k (by assumption) | exact fb_k (by assumption) | exact sb_k (by assumption) | exact tb_k (by assumption) | exact sb_li (by assumption) | exact sb_s (by assumption) | exact tb_n (by assumption) | exact fb_k (sb_f (by assumption))) (by first | rfl | assumption | exact lk6 (by assumption) _ | exact lk2 (by assumption) _ | exact fb_l0 (by assumption) | exact fb_l1 (by assumption) | exact sb_l0 (by assumption) | exact sb_l1 (by assumption) | exact sb_l2 (by assumption) | exact sb_l3 (by assumption) | exact tb_l0 (by assumption) | exact tb_l1 (by assumption) | exact tb_l2 (by assumption) | exact lk2 (sb_li (by assumption)) _ | exact fb_l0 (sb_f (by assumption)) | exact fb_l1 (sb_f (by assumption))) ?_
      refine rw_iload_n F dc_X1_take_28 rfl ?_
      obtain ⟨hs4, hp⟩ := hp
      refine rw_aaShip F dc_X1_take_29 (by first | assumption | exact (show _ ∈ tw_fbL by decide) | exact sb_f (by assumption)) hs4 (fun hk5 => ?_)
      refine rw_cVv F [_] dc_X1_take_30 mv_X6_take ml_RX1_22 (by decide) (rc_6 (by first | rfl | assumption | decide | exact r73_k (by assumption) | exact fb_k (by assumption) | exact sb_k (by assumption) | exact tb_k (by assumption) | exact sb_li (by assumption) | exact sb_s (by assumption) | exact tb_n (by assumption) | exact fb_k (sb_f (by assumption)))) rfl rfl (Nat.le_of_ble_eq_true rfl) ct_X6_take ?_
      refine rw_inc (n1 := 1) F dc_X1_take_33 rfl rfl (by decide) rfl ?_
      refine rw_goto (tgt := 10) F dc_X1_take_36 rfl ?_
      exact ih _ _ hp (by simpa only [if_neg c1] using hq)
theorem cr_X1_take {E : tw_E} {f : Nat} {o : Nat} {N : Nat}   {τ : tw_T} (hp : p_X1_take N f o τ) (hf : tw_fb f := by first | assumption | exact (show _ ∈ tw_fbL by decide) | exact sb_f (by assumption)) (ho : tw_fb o := by first | assumption | exact (show _ ∈ tw_fbL by decide) | exact sb_f (by assumption)) : tw_Cv E 2 mX1_take [.ref f, .ref o] τ (g_X1_take N f o τ) := by
  unfold p_X1_take at hp
  refine ct_of (by decide) (by simp [Value.category]) (Nat.le_of_ble_eq_true rfl) (fun K hE F => ?_)
  subst hE
  refine rw_aload_n F dc_X1_take_0 rfl ?_
  refine rw_aload_n F dc_X1_take_1 rfl ?_
  refine rw_getI F dc_X1_take_2 fl_RX1_17 (by first | rfl | assumption | decide | exact r73_k (by assumption) | exact fb_k (by assumption) | exact sb_k (by assumption) | exact tb_k (by assumption) | exact sb_li (by assumption) | exact sb_s (by assumption) | exact tb_n (by assumption) | exact fb_k (sb_f (by assumption))) (by first | rfl | assumption | exact lk6 (by assumption) _ | exact lk2 (by assumption) _ | exact fb_l0 (by assumption) | exact fb_l1 (by assumption) | exact sb_l0 (by assumption) | exact sb_l1 (by assumption) | exact sb_l2 (by assumption) | exact sb_l3 (by assumption) | exact tb_l0 (by assumption) | exact tb_l1 (by assumption) | exact tb_l2 (by assumption) | exact lk2 (sb_li (by assumption)) _ | exact fb_l0 (sb_f (by assumption)) | exact fb_l1 (sb_f (by assumption))) ?_
  refine rw_put F dc_X1_take_5 pf_RX1_17 (by first | rfl | assumption | decide | exact r73_k (by assumption) | exact fb_k (by assumption) | exact sb_k (by assumption) | exact tb_k (by assumption) | exact sb_li (by assumption) | exact sb_s (by assumption) | exact tb_n (by assumption) | exact fb_k (sb_f (by assumption))) (by first | rfl | assumption | exact lk6 (by assumption) _ | exact lk2 (by assumption) _ | exact fb_l0 (by assumption) | exact fb_l1 (by assumption) | exact sb_l0 (by assumption) | exact sb_l1 (by assumption) | exact sb_l2 (by assumption) | exact sb_l3 (by assumption) | exact tb_l0 (by assumption) | exact tb_l1 (by assumption) | exact tb_l2 (by assumption) | exact lk2 (sb_li (by assumption)) _ | exact fb_l0 (sb_f (by assumption)) | exact fb_l1 (sb_f (by assumption))) rfl rfl ?_
  refine rw_iconst (v := 0) F dc_X1_take_8 rfl ?_
  refine rw_istore_n F dc_X1_take_9 (by decide) rfl ?_
  exact lp_X1_take_10 F hf ho N N _ _ hp ⟨rfl, by first | (simp only [g_X1_take]; done) | rfl | (simp only [g_X1_take]; rfl)⟩
def lf_X1_strandedOfAll_4 (N : Nat) (f : Nat) : Nat → Int32 → Int32 → tw_T → Int32
  | 0, _, _, _ => 0
  | n + 1, x1, x2, τ => if (τ f 1) ≤ x2 then x1 else (lf_X1_strandedOfAll_4 N f n (x1 + (τ (f + 2 + x2.toNatClampNeg) 5)) (x2 + 1) τ)
def lo_X1_strandedOfAll_4 (N : Nat) (f : Nat) : Nat → Int32 → Int32 → tw_T → Prop
  | 0, _, _, _ => False
  | n + 1, x1, x2, τ => if (τ f 1) ≤ x2 then True else (vp_in x2 8 ∧ (lo_X1_strandedOfAll_4 N f n (x1 + (τ (f + 2 + x2.toNatClampNeg) 5)) (x2 + 1) τ))
def f_X1_strandedOfAll (N : Nat) (f : Nat)  (τ : tw_T) : Int32 := lf_X1_strandedOfAll_4 N f N 0 0 τ
def p_X1_strandedOfAll (N : Nat) (f : Nat)  (τ : tw_T) : Prop := lo_X1_strandedOfAll_4 N f N 0 0 τ
theorem lp_X1_strandedOfAll_4 {K : tw_K} {Q : Option Value → tw_T → Prop} (F : tw_F K mX1_strandedOfAll 1 Q) {f : Nat} (hf : tw_fb f) (N : Nat)  : ∀ (n : Nat) (x1 : Int32) (x2 : Int32) (τ : tw_T), lo_X1_strandedOfAll_4 N f n x1 x2 τ → Q (some (.int (lf_X1_strandedOfAll_4 N f n x1 x2 τ))) τ → tw_R K 4 [.ref f, .int x1, .int x2] [] τ := by
  intro n
  induction n with
  | zero => intro x1 x2 τ hp _; exact False.elim hp
  | succ n ih =>
    intro x1 x2 τ hp hq
    simp only [lo_X1_strandedOfAll_4] at hp
    simp only [lf_X1_strandedOfAll_4] at hq
    refine rw_iload_n F dc_X1_strandedOfAll_4 rfl ?_
    refine rw_aload_n F dc_X1_strandedOfAll_5 rfl ?_
    refine rw_getI F dc_X1_strandedOfAll_6 fl_RX1_17 (by first | rfl | assumption | decide | exact r73_k (by assumption) | exact fb_k (by assumption) | exact sb_k (by assumption) | exact tb_k (by assumption) | exact sb_li (by assumption) | exact sb_s (by assumption) | exact tb_n (by assumption) | exact fb_k (sb_f (by assumption))) (by first | rfl | assumption | exact lk6 (by assumption) _ | exact lk2 (by assumption) _ | exact fb_l0 (by assumption) | exact fb_l1 (by assumption) | exact sb_l0 (by assumption) | exact sb_l1 (by assumption) | exact sb_l2 (by assumption) | exact sb_l3 (by assumption) | exact tb_l0 (by assumption) | exact tb_l1 (by assumption) | exact tb_l2 (by assumption) | exact lk2 (sb_li (by assumption)) _ | exact fb_l0 (sb_f (by assumption)) | exact fb_l1 (sb_f (by assumption))) ?_
    refine rw_icmp_ge (tgt := 30) F dc_X1_strandedOfAll_9 rfl (fun c1 => ?_) (fun c1 => ?_)
    · rw [if_pos c1] at hp
      refine rw_iload_n F dc_X1_strandedOfAll_30 rfl ?_
      refine rw_iret F dc_X1_strandedOfAll_31 rfl rfl ?_
      exact (by simpa only [if_pos c1] using hq)
    · rw [if_neg c1] at hp
      refine rw_iload_n F dc_X1_strandedOfAll_12 rfl ?_
      refine rw_aload_n F dc_X1_strandedOfAll_13 rfl ?_
      refine rw_getR F dc_X1_strandedOfAll_14 fl_RX1_11 (by first | rfl | assumption | decide | exact r73_k (by assumption) | exact fb_k (by assumption) | exact sb_k (by assumption) | exact tb_k (by assumption) | exact sb_li (by assumption) | exact sb_s (by assumption) | exact tb_n (by assumption) | exact fb_k (sb_f (by assumption))) (by first | rfl | assumption | exact lk6 (by assumption) _ | exact lk2 (by assumption) _ | exact fb_l0 (by assumption) | exact fb_l1 (by assumption) | exact sb_l0 (by assumption) | exact sb_l1 (by assumption) | exact sb_l2 (by assumption) | exact sb_l3 (by assumption) | exact tb_l0 (by assumption) | exact tb_l1 (by assumption) | exact tb_l2 (by assumption) | exact lk2 (sb_li (by assumption)) _ | exact fb_l0 (sb_f (by assumption)) | exact fb_l1 (sb_f (by assumption))) ?_
      refine rw_iload_n F dc_X1_strandedOfAll_17 rfl ?_
      obtain ⟨hs2, hp⟩ := hp
      refine rw_aaShip F dc_X1_strandedOfAll_18 (by first | assumption | exact (show _ ∈ tw_fbL by decide) | exact sb_f (by assumption)) hs2 (fun hk3 => ?_)
      refine rw_getI F dc_X1_strandedOfAll_19 fl_RX1_47 (by first | rfl | assumption | decide | exact r73_k (by assumption) | exact fb_k (by assumption) | exact sb_k (by assumption) | exact tb_k (by assumption) | exact sb_li (by assumption) | exact sb_s (by assumption) | exact tb_n (by assumption) | exact fb_k (sb_f (by assumption))) (by first | rfl | assumption | exact lk6 (by assumption) _ | exact lk2 (by assumption) _ | exact fb_l0 (by assumption) | exact fb_l1 (by assumption) | exact sb_l0 (by assumption) | exact sb_l1 (by assumption) | exact sb_l2 (by assumption) | exact sb_l3 (by assumption) | exact tb_l0 (by assumption) | exact tb_l1 (by assumption) | exact tb_l2 (by assumption) | exact lk2 (sb_li (by assumption)) _ | exact fb_l0 (sb_f (by assumption)) | exact fb_l1 (sb_f (by assumption))) ?_
      refine rw_iadd F dc_X1_strandedOfAll_22 ?_
      refine rw_istore_n F dc_X1_strandedOfAll_23 (by decide) rfl ?_
      refine rw_inc (n1 := 1) F dc_X1_strandedOfAll_24 rfl rfl (by decide) rfl ?_
      refine rw_goto (tgt := 4) F dc_X1_strandedOfAll_27 rfl ?_
      exact ih _ _ _ hp (by simpa only [if_neg c1] using hq)
theorem cr_X1_strandedOfAll {E : tw_E} {f : Nat} {N : Nat}   {τ : tw_T} (hp : p_X1_strandedOfAll N f τ) (hf : tw_fb f := by first | assumption | exact (show _ ∈ tw_fbL by decide) | exact sb_f (by assumption)) : tw_Ci E 1 mX1_strandedOfAll [.ref f] τ (f_X1_strandedOfAll N f τ) (τ) := by
  unfold p_X1_strandedOfAll at hp
  refine ct_of (by decide) (by simp [Value.category]) (Nat.le_of_ble_eq_true rfl) (fun K hE F => ?_)
  subst hE
  refine rw_iconst (v := 0) F dc_X1_strandedOfAll_0 rfl ?_
  refine rw_istore_n F dc_X1_strandedOfAll_1 (by decide) rfl ?_
  refine rw_iconst (v := 0) F dc_X1_strandedOfAll_2 rfl ?_
  refine rw_istore_n F dc_X1_strandedOfAll_3 (by decide) rfl ?_
  exact lp_X1_strandedOfAll_4 F hf N N _ _ _ hp ⟨by first | (simp only [f_X1_strandedOfAll]; done) | rfl | (simp only [f_X1_strandedOfAll]; rfl), by first | (simp only [f_X1_strandedOfAll]; done) | rfl | (simp only [f_X1_strandedOfAll]; rfl)⟩
def lf_X1_sawOfAll_4 (N : Nat) (f : Nat) : Nat → Int32 → Int32 → tw_T → Int32
  | 0, _, _, _ => 0
  | n + 1, x1, x2, τ => if (τ f 1) ≤ x2 then x1 else (lf_X1_sawOfAll_4 N f n (x1 + (τ (f + 2 + x2.toNatClampNeg) 6)) (x2 + 1) τ)
def lo_X1_sawOfAll_4 (N : Nat) (f : Nat) : Nat → Int32 → Int32 → tw_T → Prop
  | 0, _, _, _ => False
  | n + 1, x1, x2, τ => if (τ f 1) ≤ x2 then True else (vp_in x2 8 ∧ (lo_X1_sawOfAll_4 N f n (x1 + (τ (f + 2 + x2.toNatClampNeg) 6)) (x2 + 1) τ))
def f_X1_sawOfAll (N : Nat) (f : Nat)  (τ : tw_T) : Int32 := lf_X1_sawOfAll_4 N f N 0 0 τ
def p_X1_sawOfAll (N : Nat) (f : Nat)  (τ : tw_T) : Prop := lo_X1_sawOfAll_4 N f N 0 0 τ
theorem lp_X1_sawOfAll_4 {K : tw_K} {Q : Option Value → tw_T → Prop} (F : tw_F K mX1_sawOfAll 1 Q) {f : Nat} (hf : tw_fb f) (N : Nat)  : ∀ (n : Nat) (x1 : Int32) (x2 : Int32) (τ : tw_T), lo_X1_sawOfAll_4 N f n x1 x2 τ → Q (some (.int (lf_X1_sawOfAll_4 N f n x1 x2 τ))) τ → tw_R K 4 [.ref f, .int x1, .int x2] [] τ := by
  intro n
  induction n with
  | zero => intro x1 x2 τ hp _; exact False.elim hp
  | succ n ih =>
    intro x1 x2 τ hp hq
    simp only [lo_X1_sawOfAll_4] at hp
    simp only [lf_X1_sawOfAll_4] at hq
    refine rw_iload_n F dc_X1_sawOfAll_4 rfl ?_
    refine rw_aload_n F dc_X1_sawOfAll_5 rfl ?_
    refine rw_getI F dc_X1_sawOfAll_6 fl_RX1_17 (by first | rfl | assumption | decide | exact r73_k (by assumption) | exact fb_k (by assumption) | exact sb_k (by assumption) | exact tb_k (by assumption) | exact sb_li (by assumption) | exact sb_s (by assumption) | exact tb_n (by assumption) | exact fb_k (sb_f (by assumption))) (by first | rfl | assumption | exact lk6 (by assumption) _ | exact lk2 (by assumption) _ | exact fb_l0 (by assumption) | exact fb_l1 (by assumption) | exact sb_l0 (by assumption) | exact sb_l1 (by assumption) | exact sb_l2 (by assumption) | exact sb_l3 (by assumption) | exact tb_l0 (by assumption) | exact tb_l1 (by assumption) | exact tb_l2 (by assumption) | exact lk2 (sb_li (by assumption)) _ | exact fb_l0 (sb_f (by assumption)) | exact fb_l1 (sb_f (by assumption))) ?_
    refine rw_icmp_ge (tgt := 30) F dc_X1_sawOfAll_9 rfl (fun c1 => ?_) (fun c1 => ?_)
    · rw [if_pos c1] at hp
      refine rw_iload_n F dc_X1_sawOfAll_30 rfl ?_
      refine rw_iret F dc_X1_sawOfAll_31 rfl rfl ?_
      exact (by simpa only [if_pos c1] using hq)
    · rw [if_neg c1] at hp
      refine rw_iload_n F dc_X1_sawOfAll_12 rfl ?_
      refine rw_aload_n F dc_X1_sawOfAll_13 rfl ?_
      refine rw_getR F dc_X1_sawOfAll_14 fl_RX1_11 (by first | rfl | assumption | decide | exact r73_k (by assumption) | exact fb_k (by assumption) | exact sb_k (by assumption) | exact tb_k (by assumption) | exact sb_li (by assumption) | exact sb_s (by assumption) | exact tb_n (by assumption) | exact fb_k (sb_f (by assumption))) (by first | rfl | assumption | exact lk6 (by assumption) _ | exact lk2 (by assumption) _ | exact fb_l0 (by assumption) | exact fb_l1 (by assumption) | exact sb_l0 (by assumption) | exact sb_l1 (by assumption) | exact sb_l2 (by assumption) | exact sb_l3 (by assumption) | exact tb_l0 (by assumption) | exact tb_l1 (by assumption) | exact tb_l2 (by assumption) | exact lk2 (sb_li (by assumption)) _ | exact fb_l0 (sb_f (by assumption)) | exact fb_l1 (sb_f (by assumption))) ?_
      refine rw_iload_n F dc_X1_sawOfAll_17 rfl ?_
      obtain ⟨hs2, hp⟩ := hp
      refine rw_aaShip F dc_X1_sawOfAll_18 (by first | assumption | exact (show _ ∈ tw_fbL by decide) | exact sb_f (by assumption)) hs2 (fun hk3 => ?_)
      refine rw_getI F dc_X1_sawOfAll_19 fl_RX1_50 (by first | rfl | assumption | decide | exact r73_k (by assumption) | exact fb_k (by assumption) | exact sb_k (by assumption) | exact tb_k (by assumption) | exact sb_li (by assumption) | exact sb_s (by assumption) | exact tb_n (by assumption) | exact fb_k (sb_f (by assumption))) (by first | rfl | assumption | exact lk6 (by assumption) _ | exact lk2 (by assumption) _ | exact fb_l0 (by assumption) | exact fb_l1 (by assumption) | exact sb_l0 (by assumption) | exact sb_l1 (by assumption) | exact sb_l2 (by assumption) | exact sb_l3 (by assumption) | exact tb_l0 (by assumption) | exact tb_l1 (by assumption) | exact tb_l2 (by assumption) | exact lk2 (sb_li (by assumption)) _ | exact fb_l0 (sb_f (by assumption)) | exact fb_l1 (sb_f (by assumption))) ?_
      refine rw_iadd F dc_X1_sawOfAll_22 ?_
      refine rw_istore_n F dc_X1_sawOfAll_23 (by decide) rfl ?_
      refine rw_inc (n1 := 1) F dc_X1_sawOfAll_24 rfl rfl (by decide) rfl ?_
      refine rw_goto (tgt := 4) F dc_X1_sawOfAll_27 rfl ?_
      exact ih _ _ _ hp (by simpa only [if_neg c1] using hq)
theorem cr_X1_sawOfAll {E : tw_E} {f : Nat} {N : Nat}   {τ : tw_T} (hp : p_X1_sawOfAll N f τ) (hf : tw_fb f := by first | assumption | exact (show _ ∈ tw_fbL by decide) | exact sb_f (by assumption)) : tw_Ci E 1 mX1_sawOfAll [.ref f] τ (f_X1_sawOfAll N f τ) (τ) := by
  unfold p_X1_sawOfAll at hp
  refine ct_of (by decide) (by simp [Value.category]) (Nat.le_of_ble_eq_true rfl) (fun K hE F => ?_)
  subst hE
  refine rw_iconst (v := 0) F dc_X1_sawOfAll_0 rfl ?_
  refine rw_istore_n F dc_X1_sawOfAll_1 (by decide) rfl ?_
  refine rw_iconst (v := 0) F dc_X1_sawOfAll_2 rfl ?_
  refine rw_istore_n F dc_X1_sawOfAll_3 (by decide) rfl ?_
  exact lp_X1_sawOfAll_4 F hf N N _ _ _ hp ⟨by first | (simp only [f_X1_sawOfAll]; done) | rfl | (simp only [f_X1_sawOfAll]; rfl), by first | (simp only [f_X1_sawOfAll]; done) | rfl | (simp only [f_X1_sawOfAll]; rfl)⟩
def lf_X1_shipsInPort_4 (N : Nat) (f : Nat) : Nat → Int32 → Int32 → tw_T → Int32
  | 0, _, _, _ => 0
  | n + 1, x1, x2, τ => if (τ f 1) ≤ x2 then x1 else (lf_X1_shipsInPort_4 N f n (x1 ||| ((τ (f + 2 + x2.toNatClampNeg) 4) <<< (x2 &&& 31))) (x2 + 1) τ)
def lo_X1_shipsInPort_4 (N : Nat) (f : Nat) : Nat → Int32 → Int32 → tw_T → Prop
  | 0, _, _, _ => False
  | n + 1, x1, x2, τ => if (τ f 1) ≤ x2 then True else (vp_in x2 8 ∧ (lo_X1_shipsInPort_4 N f n (x1 ||| ((τ (f + 2 + x2.toNatClampNeg) 4) <<< (x2 &&& 31))) (x2 + 1) τ))
def f_X1_shipsInPort (N : Nat) (f : Nat)  (τ : tw_T) : Int32 := lf_X1_shipsInPort_4 N f N 0 0 τ
def p_X1_shipsInPort (N : Nat) (f : Nat)  (τ : tw_T) : Prop := lo_X1_shipsInPort_4 N f N 0 0 τ
theorem lp_X1_shipsInPort_4 {K : tw_K} {Q : Option Value → tw_T → Prop} (F : tw_F K mX1_shipsInPort 1 Q) {f : Nat} (hf : tw_fb f) (N : Nat)  : ∀ (n : Nat) (x1 : Int32) (x2 : Int32) (τ : tw_T), lo_X1_shipsInPort_4 N f n x1 x2 τ → Q (some (.int (lf_X1_shipsInPort_4 N f n x1 x2 τ))) τ → tw_R K 4 [.ref f, .int x1, .int x2] [] τ := by
  intro n
  induction n with
  | zero => intro x1 x2 τ hp _; exact False.elim hp
  | succ n ih =>
    intro x1 x2 τ hp hq
    simp only [lo_X1_shipsInPort_4] at hp
    simp only [lf_X1_shipsInPort_4] at hq
    refine rw_iload_n F dc_X1_shipsInPort_4 rfl ?_
    refine rw_aload_n F dc_X1_shipsInPort_5 rfl ?_
    refine rw_getI F dc_X1_shipsInPort_6 fl_RX1_17 (by first | rfl | assumption | decide | exact r73_k (by assumption) | exact fb_k (by assumption) | exact sb_k (by assumption) | exact tb_k (by assumption) | exact sb_li (by assumption) | exact sb_s (by assumption) | exact tb_n (by assumption) | exact fb_k (sb_f (by assumption))) (by first | rfl | assumption | exact lk6 (by assumption) _ | exact lk2 (by assumption) _ | exact fb_l0 (by assumption) | exact fb_l1 (by assumption) | exact sb_l0 (by assumption) | exact sb_l1 (by assumption) | exact sb_l2 (by assumption) | exact sb_l3 (by assumption) | exact tb_l0 (by assumption) | exact tb_l1 (by assumption) | exact tb_l2 (by assumption) | exact lk2 (sb_li (by assumption)) _ | exact fb_l0 (sb_f (by assumption)) | exact fb_l1 (sb_f (by assumption))) ?_
    refine rw_icmp_ge (tgt := 32) F dc_X1_shipsInPort_9 rfl (fun c1 => ?_) (fun c1 => ?_)
    · rw [if_pos c1] at hp
      refine rw_iload_n F dc_X1_shipsInPort_32 rfl ?_
      refine rw_iret F dc_X1_shipsInPort_33 rfl rfl ?_
      exact (by simpa only [if_pos c1] using hq)
    · rw [if_neg c1] at hp
      refine rw_iload_n F dc_X1_shipsInPort_12 rfl ?_
      refine rw_aload_n F dc_X1_shipsInPort_13 rfl ?_
      refine rw_getR F dc_X1_shipsInPort_14 fl_RX1_11 (by first | rfl | assumption | decide | exact r73_k (by assumption) | exact fb_k (by assumption) | exact sb_k (by assumption) | exact tb_k (by assumption) | exact sb_li (by assumption) | exact sb_s (by assumption) | exact tb_n (by assumption) | exact fb_k (sb_f (by assumption))) (by first | rfl | assumption | exact lk6 (by assumption) _ | exact lk2 (by assumption) _ | exact fb_l0 (by assumption) | exact fb_l1 (by assumption) | exact sb_l0 (by assumption) | exact sb_l1 (by assumption) | exact sb_l2 (by assumption) | exact sb_l3 (by assumption) | exact tb_l0 (by assumption) | exact tb_l1 (by assumption) | exact tb_l2 (by assumption) | exact lk2 (sb_li (by assumption)) _ | exact fb_l0 (sb_f (by assumption)) | exact fb_l1 (sb_f (by assumption))) ?_
      refine rw_iload_n F dc_X1_shipsInPort_17 rfl ?_
      obtain ⟨hs2, hp⟩ := hp
      refine rw_aaShip F dc_X1_shipsInPort_18 (by first | assumption | exact (show _ ∈ tw_fbL by decide) | exact sb_f (by assumption)) hs2 (fun hk3 => ?_)
      refine rw_getI F dc_X1_shipsInPort_19 fl_RX1_53 (by first | rfl | assumption | decide | exact r73_k (by assumption) | exact fb_k (by assumption) | exact sb_k (by assumption) | exact tb_k (by assumption) | exact sb_li (by assumption) | exact sb_s (by assumption) | exact tb_n (by assumption) | exact fb_k (sb_f (by assumption))) (by first | rfl | assumption | exact lk6 (by assumption) _ | exact lk2 (by assumption) _ | exact fb_l0 (by assumption) | exact fb_l1 (by assumption) | exact sb_l0 (by assumption) | exact sb_l1 (by assumption) | exact sb_l2 (by assumption) | exact sb_l3 (by assumption) | exact tb_l0 (by assumption) | exact tb_l1 (by assumption) | exact tb_l2 (by assumption) | exact lk2 (sb_li (by assumption)) _ | exact fb_l0 (sb_f (by assumption)) | exact fb_l1 (sb_f (by assumption))) ?_
      refine rw_iload_n F dc_X1_shipsInPort_22 rfl ?_
      refine rw_ishl F dc_X1_shipsInPort_23 ?_
      refine rw_ior F dc_X1_shipsInPort_24 ?_
      refine rw_istore_n F dc_X1_shipsInPort_25 (by decide) rfl ?_
      refine rw_inc (n1 := 1) F dc_X1_shipsInPort_26 rfl rfl (by decide) rfl ?_
      refine rw_goto (tgt := 4) F dc_X1_shipsInPort_29 rfl ?_
      exact ih _ _ _ hp (by simpa only [if_neg c1] using hq)
theorem cr_X1_shipsInPort {E : tw_E} {f : Nat} {N : Nat}   {τ : tw_T} (hp : p_X1_shipsInPort N f τ) (hf : tw_fb f := by first | assumption | exact (show _ ∈ tw_fbL by decide) | exact sb_f (by assumption)) : tw_Ci E 1 mX1_shipsInPort [.ref f] τ (f_X1_shipsInPort N f τ) (τ) := by
  unfold p_X1_shipsInPort at hp
  refine ct_of (by decide) (by simp [Value.category]) (Nat.le_of_ble_eq_true rfl) (fun K hE F => ?_)
  subst hE
  refine rw_iconst (v := 0) F dc_X1_shipsInPort_0 rfl ?_
  refine rw_istore_n F dc_X1_shipsInPort_1 (by decide) rfl ?_
  refine rw_iconst (v := 0) F dc_X1_shipsInPort_2 rfl ?_
  refine rw_istore_n F dc_X1_shipsInPort_3 (by decide) rfl ?_
  exact lp_X1_shipsInPort_4 F hf N N _ _ _ hp ⟨by first | (simp only [f_X1_shipsInPort]; done) | rfl | (simp only [f_X1_shipsInPort]; rfl), by first | (simp only [f_X1_shipsInPort]; done) | rfl | (simp only [f_X1_shipsInPort]; rfl)⟩
def lf_X1_shipsAt_4 (N : Nat) (f : Nat) : Nat → Int32 → Int32 → Int32 → tw_T → Int32
  | 0, _, _, _, _ => 0
  | n + 1, x1, x2, x3, τ => if (τ f 1) ≤ x3 then x2 else (if (τ (f + 2 + x3.toNatClampNeg) 4) = (0 : Int32) then (if (τ (f + 2 + x3.toNatClampNeg) 1) = x1 then (lf_X1_shipsAt_4 N f n x1 (x2 ||| ((1 : Int32) <<< (x3 &&& 31))) (x3 + 1) τ) else (lf_X1_shipsAt_4 N f n x1 x2 (x3 + 1) τ)) else (lf_X1_shipsAt_4 N f n x1 x2 (x3 + 1) τ))
def lo_X1_shipsAt_4 (N : Nat) (f : Nat) : Nat → Int32 → Int32 → Int32 → tw_T → Prop
  | 0, _, _, _, _ => False
  | n + 1, x1, x2, x3, τ => if (τ f 1) ≤ x3 then True else (vp_in x3 8 ∧ (if (τ (f + 2 + x3.toNatClampNeg) 4) = (0 : Int32) then (vp_in x3 8 ∧ (if (τ (f + 2 + x3.toNatClampNeg) 1) = x1 then (lo_X1_shipsAt_4 N f n x1 (x2 ||| ((1 : Int32) <<< (x3 &&& 31))) (x3 + 1) τ) else (lo_X1_shipsAt_4 N f n x1 x2 (x3 + 1) τ))) else (lo_X1_shipsAt_4 N f n x1 x2 (x3 + 1) τ)))
def f_X1_shipsAt (N : Nat) (f : Nat) (x1 : Int32) (τ : tw_T) : Int32 := lf_X1_shipsAt_4 N f N x1 0 0 τ
def p_X1_shipsAt (N : Nat) (f : Nat) (x1 : Int32) (τ : tw_T) : Prop := lo_X1_shipsAt_4 N f N x1 0 0 τ
theorem lp_X1_shipsAt_4 {K : tw_K} {Q : Option Value → tw_T → Prop} (F : tw_F K mX1_shipsAt 1 Q) {f : Nat} (hf : tw_fb f) (N : Nat)  : ∀ (n : Nat) (x1 : Int32) (x2 : Int32) (x3 : Int32) (τ : tw_T), lo_X1_shipsAt_4 N f n x1 x2 x3 τ → Q (some (.int (lf_X1_shipsAt_4 N f n x1 x2 x3 τ))) τ → tw_R K 4 [.ref f, .int x1, .int x2, .int x3] [] τ := by
  intro n
  induction n with
  | zero => intro x1 x2 x3 τ hp _; exact False.elim hp
  | succ n ih =>
    intro x1 x2 x3 τ hp hq
    simp only [lo_X1_shipsAt_4] at hp
    simp only [lf_X1_shipsAt_4] at hq
    refine rw_iload_n F dc_X1_shipsAt_4 rfl ?_
    refine rw_aload_n F dc_X1_shipsAt_5 rfl ?_
    refine rw_getI F dc_X1_shipsAt_6 fl_RX1_17 (by first | rfl | assumption | decide | exact r73_k (by assumption) | exact fb_k (by assumption) | exact sb_k (by assumption) | exact tb_k (by assumption) | exact sb_li (by assumption) | exact sb_s (by assumption) | exact tb_n (by assumption) | exact fb_k (sb_f (by assumption))) (by first | rfl | assumption | exact lk6 (by assumption) _ | exact lk2 (by assumption) _ | exact fb_l0 (by assumption) | exact fb_l1 (by assumption) | exact sb_l0 (by assumption) | exact sb_l1 (by assumption) | exact sb_l2 (by assumption) | exact sb_l3 (by assumption) | exact tb_l0 (by assumption) | exact tb_l1 (by assumption) | exact tb_l2 (by assumption) | exact lk2 (sb_li (by assumption)) _ | exact fb_l0 (sb_f (by assumption)) | exact fb_l1 (sb_f (by assumption))) ?_
    refine rw_icmp_ge (tgt := 49) F dc_X1_shipsAt_9 rfl (fun c1 => ?_) (fun c1 => ?_)
    · rw [if_pos c1] at hp
      refine rw_iload_n F dc_X1_shipsAt_49 rfl ?_
      refine rw_iret F dc_X1_shipsAt_50 rfl rfl ?_
      exact (by simpa only [if_pos c1] using hq)
    · rw [if_neg c1] at hp
      refine rw_aload_n F dc_X1_shipsAt_12 rfl ?_
      refine rw_getR F dc_X1_shipsAt_13 fl_RX1_11 (by first | rfl | assumption | decide | exact r73_k (by assumption) | exact fb_k (by assumption) | exact sb_k (by assumption) | exact tb_k (by assumption) | exact sb_li (by assumption) | exact sb_s (by assumption) | exact tb_n (by assumption) | exact fb_k (sb_f (by assumption))) (by first | rfl | assumption | exact lk6 (by assumption) _ | exact lk2 (by assumption) _ | exact fb_l0 (by assumption) | exact fb_l1 (by assumption) | exact sb_l0 (by assumption) | exact sb_l1 (by assumption) | exact sb_l2 (by assumption) | exact sb_l3 (by assumption) | exact tb_l0 (by assumption) | exact tb_l1 (by assumption) | exact tb_l2 (by assumption) | exact lk2 (sb_li (by assumption)) _ | exact fb_l0 (sb_f (by assumption)) | exact fb_l1 (sb_f (by assumption))) ?_
      refine rw_iload_n F dc_X1_shipsAt_16 rfl ?_
      obtain ⟨hs2, hp⟩ := hp
      refine rw_aaShip F dc_X1_shipsAt_17 (by first | assumption | exact (show _ ∈ tw_fbL by decide) | exact sb_f (by assumption)) hs2 (fun hk3 => ?_)
      refine rw_getI F dc_X1_shipsAt_18 fl_RX1_53 (by first | rfl | assumption | decide | exact r73_k (by assumption) | exact fb_k (by assumption) | exact sb_k (by assumption) | exact tb_k (by assumption) | exact sb_li (by assumption) | exact sb_s (by assumption) | exact tb_n (by assumption) | exact fb_k (sb_f (by assumption))) (by first | rfl | assumption | exact lk6 (by assumption) _ | exact lk2 (by assumption) _ | exact fb_l0 (by assumption) | exact fb_l1 (by assumption) | exact sb_l0 (by assumption) | exact sb_l1 (by assumption) | exact sb_l2 (by assumption) | exact sb_l3 (by assumption) | exact tb_l0 (by assumption) | exact tb_l1 (by assumption) | exact tb_l2 (by assumption) | exact lk2 (sb_li (by assumption)) _ | exact fb_l0 (sb_f (by assumption)) | exact fb_l1 (sb_f (by assumption))) ?_
      refine rw_if_ne (tgt := 43) F dc_X1_shipsAt_21 rfl (fun c4 => ?_) (fun c4 => ?_)
      · rw [if_neg c4] at hp
        refine rw_inc (n1 := 1) F dc_X1_shipsAt_43 rfl rfl (by decide) rfl ?_
        refine rw_goto (tgt := 4) F dc_X1_shipsAt_46 rfl ?_
        exact ih _ _ _ _ hp (by simpa only [if_neg c1, if_neg c4] using hq)
      · rw [if_pos c4] at hp
        refine rw_aload_n F dc_X1_shipsAt_24 rfl ?_
        refine rw_getR F dc_X1_shipsAt_25 fl_RX1_11 (by first | rfl | assumption | decide | exact r73_k (by assumption) | exact fb_k (by assumption) | exact sb_k (by assumption) | exact tb_k (by assumption) | exact sb_li (by assumption) | exact sb_s (by assumption) | exact tb_n (by assumption) | exact fb_k (sb_f (by assumption))) (by first | rfl | assumption | exact lk6 (by assumption) _ | exact lk2 (by assumption) _ | exact fb_l0 (by assumption) | exact fb_l1 (by assumption) | exact sb_l0 (by assumption) | exact sb_l1 (by assumption) | exact sb_l2 (by assumption) | exact sb_l3 (by assumption) | exact tb_l0 (by assumption) | exact tb_l1 (by assumption) | exact tb_l2 (by assumption) | exact lk2 (sb_li (by assumption)) _ | exact fb_l0 (sb_f (by assumption)) | exact fb_l1 (sb_f (by assumption))) ?_
        refine rw_iload_n F dc_X1_shipsAt_28 rfl ?_
        obtain ⟨hs5, hp⟩ := hp
        refine rw_aaShip F dc_X1_shipsAt_29 (by first | assumption | exact (show _ ∈ tw_fbL by decide) | exact sb_f (by assumption)) hs5 (fun hk6 => ?_)
        refine rw_getI F dc_X1_shipsAt_30 fl_RX1_56 (by first | rfl | assumption | decide | exact r73_k (by assumption) | exact fb_k (by assumption) | exact sb_k (by assumption) | exact tb_k (by assumption) | exact sb_li (by assumption) | exact sb_s (by assumption) | exact tb_n (by assumption) | exact fb_k (sb_f (by assumption))) (by first | rfl | assumption | exact lk6 (by assumption) _ | exact lk2 (by assumption) _ | exact fb_l0 (by assumption) | exact fb_l1 (by assumption) | exact sb_l0 (by assumption) | exact sb_l1 (by assumption) | exact sb_l2 (by assumption) | exact sb_l3 (by assumption) | exact tb_l0 (by assumption) | exact tb_l1 (by assumption) | exact tb_l2 (by assumption) | exact lk2 (sb_li (by assumption)) _ | exact fb_l0 (sb_f (by assumption)) | exact fb_l1 (sb_f (by assumption))) ?_
        refine rw_iload_n F dc_X1_shipsAt_33 rfl ?_
        refine rw_icmp_ne (tgt := 43) F dc_X1_shipsAt_34 rfl (fun c7 => ?_) (fun c7 => ?_)
        · rw [if_neg c7] at hp
          refine rw_inc (n1 := 1) F dc_X1_shipsAt_43 rfl rfl (by decide) rfl ?_
          refine rw_goto (tgt := 4) F dc_X1_shipsAt_46 rfl ?_
          exact ih _ _ _ _ hp (by simpa only [if_neg c1, if_pos c4, if_neg c7] using hq)
        · rw [if_pos c7] at hp
          refine rw_iload_n F dc_X1_shipsAt_37 rfl ?_
          refine rw_iconst (v := 1) F dc_X1_shipsAt_38 rfl ?_
          refine rw_iload_n F dc_X1_shipsAt_39 rfl ?_
          refine rw_ishl F dc_X1_shipsAt_40 ?_
          refine rw_ior F dc_X1_shipsAt_41 ?_
          refine rw_istore_n F dc_X1_shipsAt_42 (by decide) rfl ?_
          refine rw_inc (n1 := 1) F dc_X1_shipsAt_43 rfl rfl (by decide) rfl ?_
          refine rw_goto (tgt := 4) F dc_X1_shipsAt_46 rfl ?_
          exact ih _ _ _ _ hp (by simpa only [if_neg c1, if_pos c4, if_pos c7] using hq)
theorem cr_X1_shipsAt {E : tw_E} {f : Nat} {N : Nat}  {x1 : Int32} {τ : tw_T} (hp : p_X1_shipsAt N f x1 τ) (hf : tw_fb f := by first | assumption | exact (show _ ∈ tw_fbL by decide) | exact sb_f (by assumption)) : tw_Ci E 1 mX1_shipsAt [.ref f, .int x1] τ (f_X1_shipsAt N f x1 τ) (τ) := by
  unfold p_X1_shipsAt at hp
  refine ct_of (by decide) (by simp [Value.category]) (Nat.le_of_ble_eq_true rfl) (fun K hE F => ?_)
  subst hE
  refine rw_iconst (v := 0) F dc_X1_shipsAt_0 rfl ?_
  refine rw_istore_n F dc_X1_shipsAt_1 (by decide) rfl ?_
  refine rw_iconst (v := 0) F dc_X1_shipsAt_2 rfl ?_
  refine rw_istore_n F dc_X1_shipsAt_3 (by decide) rfl ?_
  exact lp_X1_shipsAt_4 F hf N N _ _ _ _ hp ⟨by first | (simp only [f_X1_shipsAt]; done) | rfl | (simp only [f_X1_shipsAt]; rfl), by first | (simp only [f_X1_shipsAt]; done) | rfl | (simp only [f_X1_shipsAt]; rfl)⟩
def lf_X1_cellsTaken_4 (N : Nat) (f : Nat) : Nat → Int32 → Int32 → tw_T → Int32
  | 0, _, _, _ => 0
  | n + 1, x1, x2, τ => if (τ f 1) ≤ x2 then x1 else (if (τ (f + 2 + x2.toNatClampNeg) 4) = (0 : Int32) then (lf_X1_cellsTaken_4 N f n (x1 ||| ((1 : Int32) <<< ((τ (f + 2 + x2.toNatClampNeg) 1) &&& 31))) (x2 + 1) τ) else (lf_X1_cellsTaken_4 N f n x1 (x2 + 1) τ))
def lo_X1_cellsTaken_4 (N : Nat) (f : Nat) : Nat → Int32 → Int32 → tw_T → Prop
  | 0, _, _, _ => False
  | n + 1, x1, x2, τ => if (τ f 1) ≤ x2 then True else (vp_in x2 8 ∧ (if (τ (f + 2 + x2.toNatClampNeg) 4) = (0 : Int32) then (vp_in x2 8 ∧ (lo_X1_cellsTaken_4 N f n (x1 ||| ((1 : Int32) <<< ((τ (f + 2 + x2.toNatClampNeg) 1) &&& 31))) (x2 + 1) τ)) else (lo_X1_cellsTaken_4 N f n x1 (x2 + 1) τ)))
def f_X1_cellsTaken (N : Nat) (f : Nat)  (τ : tw_T) : Int32 := lf_X1_cellsTaken_4 N f N 0 0 τ
def p_X1_cellsTaken (N : Nat) (f : Nat)  (τ : tw_T) : Prop := lo_X1_cellsTaken_4 N f N 0 0 τ
theorem lp_X1_cellsTaken_4 {K : tw_K} {Q : Option Value → tw_T → Prop} (F : tw_F K mX1_cellsTaken 1 Q) {f : Nat} (hf : tw_fb f) (N : Nat)  : ∀ (n : Nat) (x1 : Int32) (x2 : Int32) (τ : tw_T), lo_X1_cellsTaken_4 N f n x1 x2 τ → Q (some (.int (lf_X1_cellsTaken_4 N f n x1 x2 τ))) τ → tw_R K 4 [.ref f, .int x1, .int x2] [] τ := by
  intro n
  induction n with
  | zero => intro x1 x2 τ hp _; exact False.elim hp
  | succ n ih =>
    intro x1 x2 τ hp hq
    simp only [lo_X1_cellsTaken_4] at hp
    simp only [lf_X1_cellsTaken_4] at hq
    refine rw_iload_n F dc_X1_cellsTaken_4 rfl ?_
    refine rw_aload_n F dc_X1_cellsTaken_5 rfl ?_
    refine rw_getI F dc_X1_cellsTaken_6 fl_RX1_17 (by first | rfl | assumption | decide | exact r73_k (by assumption) | exact fb_k (by assumption) | exact sb_k (by assumption) | exact tb_k (by assumption) | exact sb_li (by assumption) | exact sb_s (by assumption) | exact tb_n (by assumption) | exact fb_k (sb_f (by assumption))) (by first | rfl | assumption | exact lk6 (by assumption) _ | exact lk2 (by assumption) _ | exact fb_l0 (by assumption) | exact fb_l1 (by assumption) | exact sb_l0 (by assumption) | exact sb_l1 (by assumption) | exact sb_l2 (by assumption) | exact sb_l3 (by assumption) | exact tb_l0 (by assumption) | exact tb_l1 (by assumption) | exact tb_l2 (by assumption) | exact lk2 (sb_li (by assumption)) _ | exact fb_l0 (sb_f (by assumption)) | exact fb_l1 (sb_f (by assumption))) ?_
    refine rw_icmp_ge (tgt := 44) F dc_X1_cellsTaken_9 rfl (fun c1 => ?_) (fun c1 => ?_)
    · rw [if_pos c1] at hp
      refine rw_iload_n F dc_X1_cellsTaken_44 rfl ?_
      refine rw_iret F dc_X1_cellsTaken_45 rfl rfl ?_
      exact (by simpa only [if_pos c1] using hq)
    · rw [if_neg c1] at hp
      refine rw_aload_n F dc_X1_cellsTaken_12 rfl ?_
      refine rw_getR F dc_X1_cellsTaken_13 fl_RX1_11 (by first | rfl | assumption | decide | exact r73_k (by assumption) | exact fb_k (by assumption) | exact sb_k (by assumption) | exact tb_k (by assumption) | exact sb_li (by assumption) | exact sb_s (by assumption) | exact tb_n (by assumption) | exact fb_k (sb_f (by assumption))) (by first | rfl | assumption | exact lk6 (by assumption) _ | exact lk2 (by assumption) _ | exact fb_l0 (by assumption) | exact fb_l1 (by assumption) | exact sb_l0 (by assumption) | exact sb_l1 (by assumption) | exact sb_l2 (by assumption) | exact sb_l3 (by assumption) | exact tb_l0 (by assumption) | exact tb_l1 (by assumption) | exact tb_l2 (by assumption) | exact lk2 (sb_li (by assumption)) _ | exact fb_l0 (sb_f (by assumption)) | exact fb_l1 (sb_f (by assumption))) ?_
      refine rw_iload_n F dc_X1_cellsTaken_16 rfl ?_
      obtain ⟨hs2, hp⟩ := hp
      refine rw_aaShip F dc_X1_cellsTaken_17 (by first | assumption | exact (show _ ∈ tw_fbL by decide) | exact sb_f (by assumption)) hs2 (fun hk3 => ?_)
      refine rw_getI F dc_X1_cellsTaken_18 fl_RX1_53 (by first | rfl | assumption | decide | exact r73_k (by assumption) | exact fb_k (by assumption) | exact sb_k (by assumption) | exact tb_k (by assumption) | exact sb_li (by assumption) | exact sb_s (by assumption) | exact tb_n (by assumption) | exact fb_k (sb_f (by assumption))) (by first | rfl | assumption | exact lk6 (by assumption) _ | exact lk2 (by assumption) _ | exact fb_l0 (by assumption) | exact fb_l1 (by assumption) | exact sb_l0 (by assumption) | exact sb_l1 (by assumption) | exact sb_l2 (by assumption) | exact sb_l3 (by assumption) | exact tb_l0 (by assumption) | exact tb_l1 (by assumption) | exact tb_l2 (by assumption) | exact lk2 (sb_li (by assumption)) _ | exact fb_l0 (sb_f (by assumption)) | exact fb_l1 (sb_f (by assumption))) ?_
      refine rw_if_ne (tgt := 38) F dc_X1_cellsTaken_21 rfl (fun c4 => ?_) (fun c4 => ?_)
      · rw [if_neg c4] at hp
        refine rw_inc (n1 := 1) F dc_X1_cellsTaken_38 rfl rfl (by decide) rfl ?_
        refine rw_goto (tgt := 4) F dc_X1_cellsTaken_41 rfl ?_
        exact ih _ _ _ hp (by simpa only [if_neg c1, if_neg c4] using hq)
      · rw [if_pos c4] at hp
        refine rw_iload_n F dc_X1_cellsTaken_24 rfl ?_
        refine rw_iconst (v := 1) F dc_X1_cellsTaken_25 rfl ?_
        refine rw_aload_n F dc_X1_cellsTaken_26 rfl ?_
        refine rw_getR F dc_X1_cellsTaken_27 fl_RX1_11 (by first | rfl | assumption | decide | exact r73_k (by assumption) | exact fb_k (by assumption) | exact sb_k (by assumption) | exact tb_k (by assumption) | exact sb_li (by assumption) | exact sb_s (by assumption) | exact tb_n (by assumption) | exact fb_k (sb_f (by assumption))) (by first | rfl | assumption | exact lk6 (by assumption) _ | exact lk2 (by assumption) _ | exact fb_l0 (by assumption) | exact fb_l1 (by assumption) | exact sb_l0 (by assumption) | exact sb_l1 (by assumption) | exact sb_l2 (by assumption) | exact sb_l3 (by assumption) | exact tb_l0 (by assumption) | exact tb_l1 (by assumption) | exact tb_l2 (by assumption) | exact lk2 (sb_li (by assumption)) _ | exact fb_l0 (sb_f (by assumption)) | exact fb_l1 (sb_f (by assumption))) ?_
        refine rw_iload_n F dc_X1_cellsTaken_30 rfl ?_
        obtain ⟨hs5, hp⟩ := hp
        refine rw_aaShip F dc_X1_cellsTaken_31 (by first | assumption | exact (show _ ∈ tw_fbL by decide) | exact sb_f (by assumption)) hs5 (fun hk6 => ?_)
        refine rw_getI F dc_X1_cellsTaken_32 fl_RX1_56 (by first | rfl | assumption | decide | exact r73_k (by assumption) | exact fb_k (by assumption) | exact sb_k (by assumption) | exact tb_k (by assumption) | exact sb_li (by assumption) | exact sb_s (by assumption) | exact tb_n (by assumption) | exact fb_k (sb_f (by assumption))) (by first | rfl | assumption | exact lk6 (by assumption) _ | exact lk2 (by assumption) _ | exact fb_l0 (by assumption) | exact fb_l1 (by assumption) | exact sb_l0 (by assumption) | exact sb_l1 (by assumption) | exact sb_l2 (by assumption) | exact sb_l3 (by assumption) | exact tb_l0 (by assumption) | exact tb_l1 (by assumption) | exact tb_l2 (by assumption) | exact lk2 (sb_li (by assumption)) _ | exact fb_l0 (sb_f (by assumption)) | exact fb_l1 (sb_f (by assumption))) ?_
        refine rw_ishl F dc_X1_cellsTaken_35 ?_
        refine rw_ior F dc_X1_cellsTaken_36 ?_
        refine rw_istore_n F dc_X1_cellsTaken_37 (by decide) rfl ?_
        refine rw_inc (n1 := 1) F dc_X1_cellsTaken_38 rfl rfl (by decide) rfl ?_
        refine rw_goto (tgt := 4) F dc_X1_cellsTaken_41 rfl ?_
        exact ih _ _ _ hp (by simpa only [if_neg c1, if_pos c4] using hq)
theorem cr_X1_cellsTaken {E : tw_E} {f : Nat} {N : Nat}   {τ : tw_T} (hp : p_X1_cellsTaken N f τ) (hf : tw_fb f := by first | assumption | exact (show _ ∈ tw_fbL by decide) | exact sb_f (by assumption)) : tw_Ci E 1 mX1_cellsTaken [.ref f] τ (f_X1_cellsTaken N f τ) (τ) := by
  unfold p_X1_cellsTaken at hp
  refine ct_of (by decide) (by simp [Value.category]) (Nat.le_of_ble_eq_true rfl) (fun K hE F => ?_)
  subst hE
  refine rw_iconst (v := 0) F dc_X1_cellsTaken_0 rfl ?_
  refine rw_istore_n F dc_X1_cellsTaken_1 (by decide) rfl ?_
  refine rw_iconst (v := 0) F dc_X1_cellsTaken_2 rfl ?_
  refine rw_istore_n F dc_X1_cellsTaken_3 (by decide) rfl ?_
  exact lp_X1_cellsTaken_4 F hf N N _ _ _ hp ⟨by first | (simp only [f_X1_cellsTaken]; done) | rfl | (simp only [f_X1_cellsTaken]; rfl), by first | (simp only [f_X1_cellsTaken]; done) | rfl | (simp only [f_X1_cellsTaken]; rfl)⟩
def lf_X1_nearestToFirst_7 (N : Nat) (f : Nat) : Nat → Int32 → Int32 → Int32 → tw_T → Int32
  | 0, _, _, _, _ => 0
  | n + 1, x1, x2, x3, τ => if (τ f 1) ≤ x3 then x1 else (if (τ (f + 2 + x3.toNatClampNeg) 4) = (0 : Int32) then (if x2 ≤ (τ (f + 2 + x3.toNatClampNeg) 1) then (lf_X1_nearestToFirst_7 N f n x1 x2 (x3 + 1) τ) else (lf_X1_nearestToFirst_7 N f n x3 (τ (f + 2 + x3.toNatClampNeg) 1) (x3 + 1) τ)) else (lf_X1_nearestToFirst_7 N f n x1 x2 (x3 + 1) τ))
def lo_X1_nearestToFirst_7 (N : Nat) (f : Nat) : Nat → Int32 → Int32 → Int32 → tw_T → Prop
  | 0, _, _, _, _ => False
  | n + 1, x1, x2, x3, τ => if (τ f 1) ≤ x3 then True else (vp_in x3 8 ∧ (if (τ (f + 2 + x3.toNatClampNeg) 4) = (0 : Int32) then (vp_in x3 8 ∧ (if x2 ≤ (τ (f + 2 + x3.toNatClampNeg) 1) then (lo_X1_nearestToFirst_7 N f n x1 x2 (x3 + 1) τ) else (vp_in x3 8 ∧ (lo_X1_nearestToFirst_7 N f n x3 (τ (f + 2 + x3.toNatClampNeg) 1) (x3 + 1) τ)))) else (lo_X1_nearestToFirst_7 N f n x1 x2 (x3 + 1) τ)))
def f_X1_nearestToFirst (N : Nat) (f : Nat)  (τ : tw_T) : Int32 := lf_X1_nearestToFirst_7 N f N ((-1)) 24 0 τ
def p_X1_nearestToFirst (N : Nat) (f : Nat)  (τ : tw_T) : Prop := lo_X1_nearestToFirst_7 N f N ((-1)) 24 0 τ
theorem lp_X1_nearestToFirst_7 {K : tw_K} {Q : Option Value → tw_T → Prop} (F : tw_F K mX1_nearestToFirst 1 Q) {f : Nat} (hf : tw_fb f) (N : Nat)  : ∀ (n : Nat) (x1 : Int32) (x2 : Int32) (x3 : Int32) (τ : tw_T), lo_X1_nearestToFirst_7 N f n x1 x2 x3 τ → Q (some (.int (lf_X1_nearestToFirst_7 N f n x1 x2 x3 τ))) τ → tw_R K 7 [.ref f, .int x1, .int x2, .int x3] [] τ := by
  intro n
  induction n with
  | zero => intro x1 x2 x3 τ hp _; exact False.elim hp
  | succ n ih =>
    intro x1 x2 x3 τ hp hq
    simp only [lo_X1_nearestToFirst_7] at hp
    simp only [lf_X1_nearestToFirst_7] at hq
    refine rw_iload_n F dc_X1_nearestToFirst_7 rfl ?_
    refine rw_aload_n F dc_X1_nearestToFirst_8 rfl ?_
    refine rw_getI F dc_X1_nearestToFirst_9 fl_RX1_17 (by first | rfl | assumption | decide | exact r73_k (by assumption) | exact fb_k (by assumption) | exact sb_k (by assumption) | exact tb_k (by assumption) | exact sb_li (by assumption) | exact sb_s (by assumption) | exact tb_n (by assumption) | exact fb_k (sb_f (by assumption))) (by first | rfl | assumption | exact lk6 (by assumption) _ | exact lk2 (by assumption) _ | exact fb_l0 (by assumption) | exact fb_l1 (by assumption) | exact sb_l0 (by assumption) | exact sb_l1 (by assumption) | exact sb_l2 (by assumption) | exact sb_l3 (by assumption) | exact tb_l0 (by assumption) | exact tb_l1 (by assumption) | exact tb_l2 (by assumption) | exact lk2 (sb_li (by assumption)) _ | exact fb_l0 (sb_f (by assumption)) | exact fb_l1 (sb_f (by assumption))) ?_
    refine rw_icmp_ge (tgt := 58) F dc_X1_nearestToFirst_12 rfl (fun c1 => ?_) (fun c1 => ?_)
    · rw [if_pos c1] at hp
      refine rw_iload_n F dc_X1_nearestToFirst_58 rfl ?_
      refine rw_iret F dc_X1_nearestToFirst_59 rfl rfl ?_
      exact (by simpa only [if_pos c1] using hq)
    · rw [if_neg c1] at hp
      refine rw_aload_n F dc_X1_nearestToFirst_15 rfl ?_
      refine rw_getR F dc_X1_nearestToFirst_16 fl_RX1_11 (by first | rfl | assumption | decide | exact r73_k (by assumption) | exact fb_k (by assumption) | exact sb_k (by assumption) | exact tb_k (by assumption) | exact sb_li (by assumption) | exact sb_s (by assumption) | exact tb_n (by assumption) | exact fb_k (sb_f (by assumption))) (by first | rfl | assumption | exact lk6 (by assumption) _ | exact lk2 (by assumption) _ | exact fb_l0 (by assumption) | exact fb_l1 (by assumption) | exact sb_l0 (by assumption) | exact sb_l1 (by assumption) | exact sb_l2 (by assumption) | exact sb_l3 (by assumption) | exact tb_l0 (by assumption) | exact tb_l1 (by assumption) | exact tb_l2 (by assumption) | exact lk2 (sb_li (by assumption)) _ | exact fb_l0 (sb_f (by assumption)) | exact fb_l1 (sb_f (by assumption))) ?_
      refine rw_iload_n F dc_X1_nearestToFirst_19 rfl ?_
      obtain ⟨hs2, hp⟩ := hp
      refine rw_aaShip F dc_X1_nearestToFirst_20 (by first | assumption | exact (show _ ∈ tw_fbL by decide) | exact sb_f (by assumption)) hs2 (fun hk3 => ?_)
      refine rw_getI F dc_X1_nearestToFirst_21 fl_RX1_53 (by first | rfl | assumption | decide | exact r73_k (by assumption) | exact fb_k (by assumption) | exact sb_k (by assumption) | exact tb_k (by assumption) | exact sb_li (by assumption) | exact sb_s (by assumption) | exact tb_n (by assumption) | exact fb_k (sb_f (by assumption))) (by first | rfl | assumption | exact lk6 (by assumption) _ | exact lk2 (by assumption) _ | exact fb_l0 (by assumption) | exact fb_l1 (by assumption) | exact sb_l0 (by assumption) | exact sb_l1 (by assumption) | exact sb_l2 (by assumption) | exact sb_l3 (by assumption) | exact tb_l0 (by assumption) | exact tb_l1 (by assumption) | exact tb_l2 (by assumption) | exact lk2 (sb_li (by assumption)) _ | exact fb_l0 (sb_f (by assumption)) | exact fb_l1 (sb_f (by assumption))) ?_
      refine rw_if_ne (tgt := 52) F dc_X1_nearestToFirst_24 rfl (fun c4 => ?_) (fun c4 => ?_)
      · rw [if_neg c4] at hp
        refine rw_inc (n1 := 1) F dc_X1_nearestToFirst_52 rfl rfl (by decide) rfl ?_
        refine rw_goto (tgt := 7) F dc_X1_nearestToFirst_55 rfl ?_
        exact ih _ _ _ _ hp (by simpa only [if_neg c1, if_neg c4] using hq)
      · rw [if_pos c4] at hp
        refine rw_aload_n F dc_X1_nearestToFirst_27 rfl ?_
        refine rw_getR F dc_X1_nearestToFirst_28 fl_RX1_11 (by first | rfl | assumption | decide | exact r73_k (by assumption) | exact fb_k (by assumption) | exact sb_k (by assumption) | exact tb_k (by assumption) | exact sb_li (by assumption) | exact sb_s (by assumption) | exact tb_n (by assumption) | exact fb_k (sb_f (by assumption))) (by first | rfl | assumption | exact lk6 (by assumption) _ | exact lk2 (by assumption) _ | exact fb_l0 (by assumption) | exact fb_l1 (by assumption) | exact sb_l0 (by assumption) | exact sb_l1 (by assumption) | exact sb_l2 (by assumption) | exact sb_l3 (by assumption) | exact tb_l0 (by assumption) | exact tb_l1 (by assumption) | exact tb_l2 (by assumption) | exact lk2 (sb_li (by assumption)) _ | exact fb_l0 (sb_f (by assumption)) | exact fb_l1 (sb_f (by assumption))) ?_
        refine rw_iload_n F dc_X1_nearestToFirst_31 rfl ?_
        obtain ⟨hs5, hp⟩ := hp
        refine rw_aaShip F dc_X1_nearestToFirst_32 (by first | assumption | exact (show _ ∈ tw_fbL by decide) | exact sb_f (by assumption)) hs5 (fun hk6 => ?_)
        refine rw_getI F dc_X1_nearestToFirst_33 fl_RX1_56 (by first | rfl | assumption | decide | exact r73_k (by assumption) | exact fb_k (by assumption) | exact sb_k (by assumption) | exact tb_k (by assumption) | exact sb_li (by assumption) | exact sb_s (by assumption) | exact tb_n (by assumption) | exact fb_k (sb_f (by assumption))) (by first | rfl | assumption | exact lk6 (by assumption) _ | exact lk2 (by assumption) _ | exact fb_l0 (by assumption) | exact fb_l1 (by assumption) | exact sb_l0 (by assumption) | exact sb_l1 (by assumption) | exact sb_l2 (by assumption) | exact sb_l3 (by assumption) | exact tb_l0 (by assumption) | exact tb_l1 (by assumption) | exact tb_l2 (by assumption) | exact lk2 (sb_li (by assumption)) _ | exact fb_l0 (sb_f (by assumption)) | exact fb_l1 (sb_f (by assumption))) ?_
        refine rw_iload_n F dc_X1_nearestToFirst_36 rfl ?_
        refine rw_icmp_ge (tgt := 52) F dc_X1_nearestToFirst_37 rfl (fun c7 => ?_) (fun c7 => ?_)
        · rw [if_pos c7] at hp
          refine rw_inc (n1 := 1) F dc_X1_nearestToFirst_52 rfl rfl (by decide) rfl ?_
          refine rw_goto (tgt := 7) F dc_X1_nearestToFirst_55 rfl ?_
          exact ih _ _ _ _ hp (by simpa only [if_neg c1, if_pos c4, if_pos c7] using hq)
        · rw [if_neg c7] at hp
          refine rw_aload_n F dc_X1_nearestToFirst_40 rfl ?_
          refine rw_getR F dc_X1_nearestToFirst_41 fl_RX1_11 (by first | rfl | assumption | decide | exact r73_k (by assumption) | exact fb_k (by assumption) | exact sb_k (by assumption) | exact tb_k (by assumption) | exact sb_li (by assumption) | exact sb_s (by assumption) | exact tb_n (by assumption) | exact fb_k (sb_f (by assumption))) (by first | rfl | assumption | exact lk6 (by assumption) _ | exact lk2 (by assumption) _ | exact fb_l0 (by assumption) | exact fb_l1 (by assumption) | exact sb_l0 (by assumption) | exact sb_l1 (by assumption) | exact sb_l2 (by assumption) | exact sb_l3 (by assumption) | exact tb_l0 (by assumption) | exact tb_l1 (by assumption) | exact tb_l2 (by assumption) | exact lk2 (sb_li (by assumption)) _ | exact fb_l0 (sb_f (by assumption)) | exact fb_l1 (sb_f (by assumption))) ?_
          refine rw_iload_n F dc_X1_nearestToFirst_44 rfl ?_
          obtain ⟨hs8, hp⟩ := hp
          refine rw_aaShip F dc_X1_nearestToFirst_45 (by first | assumption | exact (show _ ∈ tw_fbL by decide) | exact sb_f (by assumption)) hs8 (fun hk9 => ?_)
          refine rw_getI F dc_X1_nearestToFirst_46 fl_RX1_56 (by first | rfl | assumption | decide | exact r73_k (by assumption) | exact fb_k (by assumption) | exact sb_k (by assumption) | exact tb_k (by assumption) | exact sb_li (by assumption) | exact sb_s (by assumption) | exact tb_n (by assumption) | exact fb_k (sb_f (by assumption))) (by first | rfl | assumption | exact lk6 (by assumption) _ | exact lk2 (by assumption) _ | exact fb_l0 (by assumption) | exact fb_l1 (by assumption) | exact sb_l0 (by assumption) | exact sb_l1 (by assumption) | exact sb_l2 (by assumption) | exact sb_l3 (by assumption) | exact tb_l0 (by assumption) | exact tb_l1 (by assumption) | exact tb_l2 (by assumption) | exact lk2 (sb_li (by assumption)) _ | exact fb_l0 (sb_f (by assumption)) | exact fb_l1 (sb_f (by assumption))) ?_
          refine rw_istore_n F dc_X1_nearestToFirst_49 (by decide) rfl ?_
          refine rw_iload_n F dc_X1_nearestToFirst_50 rfl ?_
          refine rw_istore_n F dc_X1_nearestToFirst_51 (by decide) rfl ?_
          refine rw_inc (n1 := 1) F dc_X1_nearestToFirst_52 rfl rfl (by decide) rfl ?_
          refine rw_goto (tgt := 7) F dc_X1_nearestToFirst_55 rfl ?_
          exact ih _ _ _ _ hp (by simpa only [if_neg c1, if_pos c4, if_neg c7] using hq)
theorem cr_X1_nearestToFirst {E : tw_E} {f : Nat} {N : Nat}   {τ : tw_T} (hp : p_X1_nearestToFirst N f τ) (hf : tw_fb f := by first | assumption | exact (show _ ∈ tw_fbL by decide) | exact sb_f (by assumption)) : tw_Ci E 1 mX1_nearestToFirst [.ref f] τ (f_X1_nearestToFirst N f τ) (τ) := by
  unfold p_X1_nearestToFirst at hp
  refine ct_of (by decide) (by simp [Value.category]) (Nat.le_of_ble_eq_true rfl) (fun K hE F => ?_)
  subst hE
  refine rw_iconst (v := (-1)) F dc_X1_nearestToFirst_0 rfl ?_
  refine rw_istore_n F dc_X1_nearestToFirst_1 (by decide) rfl ?_
  refine rw_bipush (v := 24) F dc_X1_nearestToFirst_2 rfl ?_
  refine rw_istore_n F dc_X1_nearestToFirst_4 (by decide) rfl ?_
  refine rw_iconst (v := 0) F dc_X1_nearestToFirst_5 rfl ?_
  refine rw_istore_n F dc_X1_nearestToFirst_6 (by decide) rfl ?_
  exact lp_X1_nearestToFirst_7 F hf N N _ _ _ _ hp ⟨by first | (simp only [f_X1_nearestToFirst]; done) | rfl | (simp only [f_X1_nearestToFirst]; rfl), by first | (simp only [f_X1_nearestToFirst]; done) | rfl | (simp only [f_X1_nearestToFirst]; rfl)⟩
def lg_X1_sailOn_2 (N : Nat) (f : Nat) (o : Nat) : Nat → Int32 → Int32 → tw_T → tw_T
  | 0, _, _, τ => τ
  | n + 1, x2, x3, τ => if x2 ≤ x3 then τ else (lg_X1_sailOn_2 N f o n x2 (x3 + 1) (g_X1_sail N f (f_X2_shownAhead o x3 τ) (f_X2_tickAhead o x3 τ) τ))
def lo_X1_sailOn_2 (N : Nat) (f : Nat) (o : Nat) : Nat → Int32 → Int32 → tw_T → Prop
  | 0, _, _, _ => False
  | n + 1, x2, x3, τ => if x2 ≤ x3 then True else (p_X1_sail N f (f_X2_shownAhead o x3 τ) (f_X2_tickAhead o x3 τ) τ ∧ (lo_X1_sailOn_2 N f o n x2 (x3 + 1) (g_X1_sail N f (f_X2_shownAhead o x3 τ) (f_X2_tickAhead o x3 τ) τ)))
def g_X1_sailOn (N : Nat) (f : Nat) (o : Nat) (x2 : Int32) (τ : tw_T) : tw_T := lg_X1_sailOn_2 N f o N x2 0 τ
def p_X1_sailOn (N : Nat) (f : Nat) (o : Nat) (x2 : Int32) (τ : tw_T) : Prop := lo_X1_sailOn_2 N f o N x2 0 τ
theorem lp_X1_sailOn_2 {K : tw_K} {Q : Option Value → tw_T → Prop} (F : tw_F K mX1_sailOn 5 Q) {f : Nat} {o : Nat} (hf : tw_fb f) (ho : tw_isK o 2 = true) (N : Nat)  : ∀ (n : Nat) (x2 : Int32) (x3 : Int32) (τ : tw_T), lo_X1_sailOn_2 N f o n x2 x3 τ → Q none (lg_X1_sailOn_2 N f o n x2 x3 τ) → tw_R K 2 [.ref f, .ref o, .int x2, .int x3] [] τ := by
  intro n
  induction n with
  | zero => intro x2 x3 τ hp _; exact False.elim hp
  | succ n ih =>
    intro x2 x3 τ hp hq
    simp only [lo_X1_sailOn_2] at hp
    simp only [lg_X1_sailOn_2] at hq
    refine rw_iload_n F dc_X1_sailOn_2 rfl ?_
    refine rw_iload_n F dc_X1_sailOn_3 rfl ?_
    refine rw_icmp_ge (tgt := 27) F dc_X1_sailOn_4 rfl (fun c1 => ?_) (fun c1 => ?_)
    · rw [if_pos c1] at hp
      refine rw_vret F dc_X1_sailOn_27 rfl ?_
      exact (by simpa only [if_pos c1] using hq)
    · rw [if_neg c1] at hp
      refine rw_aload_n F dc_X1_sailOn_7 rfl ?_
      refine rw_aload_n F dc_X1_sailOn_8 rfl ?_
      refine rw_iload_n F dc_X1_sailOn_9 rfl ?_
      refine rw_cVi F [_] dc_X1_sailOn_10 mv_X2_shownAhead ml_RX1_37 (by decide) (rc_2 (by first | rfl | assumption | decide | exact r73_k (by assumption) | exact fb_k (by assumption) | exact sb_k (by assumption) | exact tb_k (by assumption) | exact sb_li (by assumption) | exact sb_s (by assumption) | exact tb_n (by assumption) | exact fb_k (sb_f (by assumption)))) rfl rfl (Nat.le_of_ble_eq_true rfl) ct_X2_shownAhead ?_
      refine rw_aload_n F dc_X1_sailOn_13 rfl ?_
      refine rw_iload_n F dc_X1_sailOn_14 rfl ?_
      refine rw_cVi F [_] dc_X1_sailOn_15 mv_X2_tickAhead ml_RX1_43 (by decide) (rc_2 (by first | rfl | assumption | decide | exact r73_k (by assumption) | exact fb_k (by assumption) | exact sb_k (by assumption) | exact tb_k (by assumption) | exact sb_li (by assumption) | exact sb_s (by assumption) | exact tb_n (by assumption) | exact fb_k (sb_f (by assumption)))) rfl rfl (Nat.le_of_ble_eq_true rfl) ct_X2_tickAhead ?_
      obtain ⟨hs2, hp⟩ := hp
      refine rw_cVv F [_, _] dc_X1_sailOn_18 mv_X1_sail ml_RX1_46 (by decide) (rc_1 (by first | rfl | assumption | decide | exact r73_k (by assumption) | exact fb_k (by assumption) | exact sb_k (by assumption) | exact tb_k (by assumption) | exact sb_li (by assumption) | exact sb_s (by assumption) | exact tb_n (by assumption) | exact fb_k (sb_f (by assumption)))) rfl rfl (Nat.le_of_ble_eq_true rfl) (cr_X1_sail hs2) ?_
      refine rw_inc (n1 := 1) F dc_X1_sailOn_21 rfl rfl (by decide) rfl ?_
      refine rw_goto (tgt := 2) F dc_X1_sailOn_24 rfl ?_
      exact ih _ _ _ hp (by simpa only [if_neg c1] using hq)
theorem cr_X1_sailOn {E : tw_E} {f : Nat} {o : Nat} {N : Nat}  {x2 : Int32} {τ : tw_T} (hp : p_X1_sailOn N f o x2 τ) (hf : tw_fb f := by first | assumption | exact (show _ ∈ tw_fbL by decide) | exact sb_f (by assumption)) (ho : tw_isK o 2 = true := by first | rfl | assumption | exact sb_li (by assumption)) : tw_Cv E 5 mX1_sailOn [.ref f, .ref o, .int x2] τ (g_X1_sailOn N f o x2 τ) := by
  unfold p_X1_sailOn at hp
  refine ct_of (by decide) (by simp [Value.category]) (Nat.le_of_ble_eq_true rfl) (fun K hE F => ?_)
  subst hE
  refine rw_iconst (v := 0) F dc_X1_sailOn_0 rfl ?_
  refine rw_istore_n F dc_X1_sailOn_1 (by decide) rfl ?_
  exact lp_X1_sailOn_2 F hf ho N N _ _ _ hp ⟨rfl, by first | (simp only [g_X1_sailOn]; done) | rfl | (simp only [g_X1_sailOn]; rfl)⟩
def f_X4_draw (b : Nat)  (τ : tw_T) : Int32 := (((tw_sr τ b (upd (τ b) 3 (((τ b 3) * 1103515245) + 12345))) b 3).toUInt32 >>> ((8 : Int32).toUInt32 &&& Int32.toUInt32 31)).toInt32
def g_X4_draw (b : Nat)  (τ : tw_T) : tw_T := tw_sr τ b (upd (τ b) 3 (((τ b 3) * 1103515245) + 12345))
theorem ct_X4_draw {E : tw_E} {b : Nat}   {τ : tw_T}  (hb : tw_sb b := by first | assumption | exact (show _ ∈ ([1, 14, 31] : List Nat) by decide)) : tw_Ci E 1 mX4_draw [.ref b] τ (f_X4_draw b τ) (g_X4_draw b τ) := by
  refine ct_of (by decide) (by simp [Value.category]) (Nat.le_of_ble_eq_true rfl) (fun K hE F => ?_)
  subst hE
  refine rw_aload_n F dc_X4_draw_0 rfl ?_
  refine rw_aload_n F dc_X4_draw_1 rfl ?_
  refine rw_getI F dc_X4_draw_2 fl_RX4_29 (by first | rfl | assumption | decide | exact r73_k (by assumption) | exact fb_k (by assumption) | exact sb_k (by assumption) | exact tb_k (by assumption) | exact sb_li (by assumption) | exact sb_s (by assumption) | exact tb_n (by assumption) | exact fb_k (sb_f (by assumption))) (by first | rfl | assumption | exact lk6 (by assumption) _ | exact lk2 (by assumption) _ | exact fb_l0 (by assumption) | exact fb_l1 (by assumption) | exact sb_l0 (by assumption) | exact sb_l1 (by assumption) | exact sb_l2 (by assumption) | exact sb_l3 (by assumption) | exact tb_l0 (by assumption) | exact tb_l1 (by assumption) | exact tb_l2 (by assumption) | exact lk2 (sb_li (by assumption)) _ | exact fb_l0 (sb_f (by assumption)) | exact fb_l1 (sb_f (by assumption))) ?_
  refine rw_ldc F dc_X4_draw_5 kc_RX4_86 ?_
  refine rw_imul F dc_X4_draw_7 ?_
  refine rw_sipush (v := 12345) F dc_X4_draw_8 rfl ?_
  refine rw_iadd F dc_X4_draw_11 ?_
  refine rw_put F dc_X4_draw_12 pf_RX4_29 (by first | rfl | assumption | decide | exact r73_k (by assumption) | exact fb_k (by assumption) | exact sb_k (by assumption) | exact tb_k (by assumption) | exact sb_li (by assumption) | exact sb_s (by assumption) | exact tb_n (by assumption) | exact fb_k (sb_f (by assumption))) (by first | rfl | assumption | exact lk6 (by assumption) _ | exact lk2 (by assumption) _ | exact fb_l0 (by assumption) | exact fb_l1 (by assumption) | exact sb_l0 (by assumption) | exact sb_l1 (by assumption) | exact sb_l2 (by assumption) | exact sb_l3 (by assumption) | exact tb_l0 (by assumption) | exact tb_l1 (by assumption) | exact tb_l2 (by assumption) | exact lk2 (sb_li (by assumption)) _ | exact fb_l0 (sb_f (by assumption)) | exact fb_l1 (sb_f (by assumption))) rfl rfl ?_
  refine rw_aload_n F dc_X4_draw_15 rfl ?_
  refine rw_getI F dc_X4_draw_16 fl_RX4_29 (by first | rfl | assumption | decide | exact r73_k (by assumption) | exact fb_k (by assumption) | exact sb_k (by assumption) | exact tb_k (by assumption) | exact sb_li (by assumption) | exact sb_s (by assumption) | exact tb_n (by assumption) | exact fb_k (sb_f (by assumption))) (by first | rfl | assumption | exact lk6 (by assumption) _ | exact lk2 (by assumption) _ | exact fb_l0 (by assumption) | exact fb_l1 (by assumption) | exact sb_l0 (by assumption) | exact sb_l1 (by assumption) | exact sb_l2 (by assumption) | exact sb_l3 (by assumption) | exact tb_l0 (by assumption) | exact tb_l1 (by assumption) | exact tb_l2 (by assumption) | exact lk2 (sb_li (by assumption)) _ | exact fb_l0 (sb_f (by assumption)) | exact fb_l1 (sb_f (by assumption))) ?_
  refine rw_bipush (v := 8) F dc_X4_draw_19 rfl ?_
  refine rw_iushr F dc_X4_draw_21 ?_
  refine rw_iret F dc_X4_draw_22 rfl rfl ?_
  exact ⟨by first | (simp only [f_X4_draw, g_X4_draw]; done) | rfl | (simp only [f_X4_draw, g_X4_draw]; rfl), by first | (simp only [f_X4_draw, g_X4_draw]; done) | rfl | (simp only [f_X4_draw, g_X4_draw]; rfl)⟩
def lf_X4_spotsTaken_4 (N : Nat) (b : Nat) : Nat → Int32 → Int32 → tw_T → Int32
  | 0, _, _, _ => 0
  | n + 1, x1, x2, τ => if (9 : Int32) < x2 then x1 else (if (τ (b + 12) x2.toNatClampNeg) < (0 : Int32) then (lf_X4_spotsTaken_4 N b n (x1 + 0) (x2 + 1) τ) else (lf_X4_spotsTaken_4 N b n (x1 + 1) (x2 + 1) τ))
def lo_X4_spotsTaken_4 (N : Nat) (b : Nat) : Nat → Int32 → Int32 → tw_T → Prop
  | 0, _, _, _ => False
  | n + 1, x1, x2, τ => if (9 : Int32) < x2 then True else (vp_in x2 10 ∧ (if (τ (b + 12) x2.toNatClampNeg) < (0 : Int32) then (lo_X4_spotsTaken_4 N b n (x1 + 0) (x2 + 1) τ) else (lo_X4_spotsTaken_4 N b n (x1 + 1) (x2 + 1) τ)))
def f_X4_spotsTaken (N : Nat) (b : Nat)  (τ : tw_T) : Int32 := lf_X4_spotsTaken_4 N b N 0 0 τ
def p_X4_spotsTaken (N : Nat) (b : Nat)  (τ : tw_T) : Prop := lo_X4_spotsTaken_4 N b N 0 0 τ
theorem lp_X4_spotsTaken_4 {K : tw_K} {Q : Option Value → tw_T → Prop} (F : tw_F K mX4_spotsTaken 1 Q) {b : Nat} (hb : tw_sb b) (N : Nat)  : ∀ (n : Nat) (x1 : Int32) (x2 : Int32) (τ : tw_T), lo_X4_spotsTaken_4 N b n x1 x2 τ → Q (some (.int (lf_X4_spotsTaken_4 N b n x1 x2 τ))) τ → tw_R K 4 [.ref b, .int x1, .int x2] [] τ := by
  intro n
  induction n with
  | zero => intro x1 x2 τ hp _; exact False.elim hp
  | succ n ih =>
    intro x1 x2 τ hp hq
    simp only [lo_X4_spotsTaken_4] at hp
    simp only [lf_X4_spotsTaken_4] at hq
    refine rw_iload_n F dc_X4_spotsTaken_4 rfl ?_
    refine rw_bipush (v := 9) F dc_X4_spotsTaken_5 rfl ?_
    refine rw_icmp_gt (tgt := 33) F dc_X4_spotsTaken_7 rfl (fun c1 => ?_) (fun c1 => ?_)
    · rw [if_pos c1] at hp
      refine rw_iload_n F dc_X4_spotsTaken_33 rfl ?_
      refine rw_iret F dc_X4_spotsTaken_34 rfl rfl ?_
      exact (by simpa only [if_pos c1] using hq)
    · rw [if_neg c1] at hp
      refine rw_iload_n F dc_X4_spotsTaken_10 rfl ?_
      refine rw_aload_n F dc_X4_spotsTaken_11 rfl ?_
      refine rw_getR F dc_X4_spotsTaken_12 fl_RX4_25 (by first | rfl | assumption | decide | exact r73_k (by assumption) | exact fb_k (by assumption) | exact sb_k (by assumption) | exact tb_k (by assumption) | exact sb_li (by assumption) | exact sb_s (by assumption) | exact tb_n (by assumption) | exact fb_k (sb_f (by assumption))) (by first | rfl | assumption | exact lk6 (by assumption) _ | exact lk2 (by assumption) _ | exact fb_l0 (by assumption) | exact fb_l1 (by assumption) | exact sb_l0 (by assumption) | exact sb_l1 (by assumption) | exact sb_l2 (by assumption) | exact sb_l3 (by assumption) | exact tb_l0 (by assumption) | exact tb_l1 (by assumption) | exact tb_l2 (by assumption) | exact lk2 (sb_li (by assumption)) _ | exact fb_l0 (sb_f (by assumption)) | exact fb_l1 (sb_f (by assumption))) ?_
      refine rw_iload_n F dc_X4_spotsTaken_15 rfl ?_
      obtain ⟨hs2, hp⟩ := hp
      refine rw_iaC F dc_X4_spotsTaken_16 (by first | rfl | assumption | decide | exact r73_k (by assumption) | exact fb_k (by assumption) | exact sb_k (by assumption) | exact tb_k (by assumption) | exact sb_li (by assumption) | exact sb_s (by assumption) | exact tb_n (by assumption) | exact fb_k (sb_f (by assumption))) (by first | rfl | exact r73_n (by assumption) | exact sb_sn (by assumption) | exact tb_nn (by assumption)) hs2 ?_
      refine rw_if_lt (tgt := 24) F dc_X4_spotsTaken_17 rfl (fun c3 => ?_) (fun c3 => ?_)
      · rw [if_pos c3] at hp
        refine rw_iconst (v := 0) F dc_X4_spotsTaken_24 rfl ?_
        refine rw_iadd F dc_X4_spotsTaken_25 ?_
        refine rw_istore_n F dc_X4_spotsTaken_26 (by decide) rfl ?_
        refine rw_inc (n1 := 1) F dc_X4_spotsTaken_27 rfl rfl (by decide) rfl ?_
        refine rw_goto (tgt := 4) F dc_X4_spotsTaken_30 rfl ?_
        exact ih _ _ _ hp (by simpa only [if_neg c1, if_pos c3] using hq)
      · rw [if_neg c3] at hp
        refine rw_iconst (v := 1) F dc_X4_spotsTaken_20 rfl ?_
        refine rw_goto (tgt := 25) F dc_X4_spotsTaken_21 rfl ?_
        refine rw_iadd F dc_X4_spotsTaken_25 ?_
        refine rw_istore_n F dc_X4_spotsTaken_26 (by decide) rfl ?_
        refine rw_inc (n1 := 1) F dc_X4_spotsTaken_27 rfl rfl (by decide) rfl ?_
        refine rw_goto (tgt := 4) F dc_X4_spotsTaken_30 rfl ?_
        exact ih _ _ _ hp (by simpa only [if_neg c1, if_neg c3] using hq)
theorem cr_X4_spotsTaken {E : tw_E} {b : Nat} {N : Nat}   {τ : tw_T} (hp : p_X4_spotsTaken N b τ) (hb : tw_sb b := by first | assumption | exact (show _ ∈ ([1, 14, 31] : List Nat) by decide)) : tw_Ci E 1 mX4_spotsTaken [.ref b] τ (f_X4_spotsTaken N b τ) (τ) := by
  unfold p_X4_spotsTaken at hp
  refine ct_of (by decide) (by simp [Value.category]) (Nat.le_of_ble_eq_true rfl) (fun K hE F => ?_)
  subst hE
  refine rw_iconst (v := 0) F dc_X4_spotsTaken_0 rfl ?_
  refine rw_istore_n F dc_X4_spotsTaken_1 (by decide) rfl ?_
  refine rw_iconst (v := 0) F dc_X4_spotsTaken_2 rfl ?_
  refine rw_istore_n F dc_X4_spotsTaken_3 (by decide) rfl ?_
  exact lp_X4_spotsTaken_4 F hb N N _ _ _ hp ⟨by first | (simp only [f_X4_spotsTaken]; done) | rfl | (simp only [f_X4_spotsTaken]; rfl), by first | (simp only [f_X4_spotsTaken]; done) | rfl | (simp only [f_X4_spotsTaken]; rfl)⟩
def g_X4_passTick (N : Nat) (b : Nat)  (τ : tw_T) : tw_T := g_X2_passTick (b + 1) (g_X1_sail N (b + 2) (f_X2_shownAhead (b + 1) 0 τ) (τ (b + 1) 4) τ)
def p_X4_passTick (N : Nat) (b : Nat)  (τ : tw_T) : Prop := p_X1_sail N (b + 2) (f_X2_shownAhead (b + 1) 0 τ) (τ (b + 1) 4) τ ∧ True
theorem ct_X4_passTick {E : tw_E} {b : Nat} {N : Nat}   {τ : tw_T} (hp : p_X4_passTick N b τ) (hb : tw_sb b := by first | assumption | exact (show _ ∈ ([1, 14, 31] : List Nat) by decide)) : tw_Cv E 5 mX4_passTick [.ref b] τ (g_X4_passTick N b τ) := by
  unfold p_X4_passTick at hp
  refine ct_of (by decide) (by simp [Value.category]) (Nat.le_of_ble_eq_true rfl) (fun K hE F => ?_)
  subst hE
  refine rw_aload_n F dc_X4_passTick_0 rfl ?_
  refine rw_getR F dc_X4_passTick_1 fl_RX4_21 (by first | rfl | assumption | decide | exact r73_k (by assumption) | exact fb_k (by assumption) | exact sb_k (by assumption) | exact tb_k (by assumption) | exact sb_li (by assumption) | exact sb_s (by assumption) | exact tb_n (by assumption) | exact fb_k (sb_f (by assumption))) (by first | rfl | assumption | exact lk6 (by assumption) _ | exact lk2 (by assumption) _ | exact fb_l0 (by assumption) | exact fb_l1 (by assumption) | exact sb_l0 (by assumption) | exact sb_l1 (by assumption) | exact sb_l2 (by assumption) | exact sb_l3 (by assumption) | exact tb_l0 (by assumption) | exact tb_l1 (by assumption) | exact tb_l2 (by assumption) | exact lk2 (sb_li (by assumption)) _ | exact fb_l0 (sb_f (by assumption)) | exact fb_l1 (sb_f (by assumption))) ?_
  refine rw_aload_n F dc_X4_passTick_4 rfl ?_
  refine rw_getR F dc_X4_passTick_5 fl_RX4_12 (by first | rfl | assumption | decide | exact r73_k (by assumption) | exact fb_k (by assumption) | exact sb_k (by assumption) | exact tb_k (by assumption) | exact sb_li (by assumption) | exact sb_s (by assumption) | exact tb_n (by assumption) | exact fb_k (sb_f (by assumption))) (by first | rfl | assumption | exact lk6 (by assumption) _ | exact lk2 (by assumption) _ | exact fb_l0 (by assumption) | exact fb_l1 (by assumption) | exact sb_l0 (by assumption) | exact sb_l1 (by assumption) | exact sb_l2 (by assumption) | exact sb_l3 (by assumption) | exact tb_l0 (by assumption) | exact tb_l1 (by assumption) | exact tb_l2 (by assumption) | exact lk2 (sb_li (by assumption)) _ | exact fb_l0 (sb_f (by assumption)) | exact fb_l1 (sb_f (by assumption))) ?_
  refine rw_iconst (v := 0) F dc_X4_passTick_8 rfl ?_
  refine rw_cVi F [_] dc_X4_passTick_9 mv_X2_shownAhead ml_RX4_46 (by decide) (rc_2 (by first | rfl | assumption | decide | exact r73_k (by assumption) | exact fb_k (by assumption) | exact sb_k (by assumption) | exact tb_k (by assumption) | exact sb_li (by assumption) | exact sb_s (by assumption) | exact tb_n (by assumption) | exact fb_k (sb_f (by assumption)))) rfl rfl (Nat.le_of_ble_eq_true rfl) ct_X2_shownAhead ?_
  refine rw_aload_n F dc_X4_passTick_12 rfl ?_
  refine rw_getR F dc_X4_passTick_13 fl_RX4_12 (by first | rfl | assumption | decide | exact r73_k (by assumption) | exact fb_k (by assumption) | exact sb_k (by assumption) | exact tb_k (by assumption) | exact sb_li (by assumption) | exact sb_s (by assumption) | exact tb_n (by assumption) | exact fb_k (sb_f (by assumption))) (by first | rfl | assumption | exact lk6 (by assumption) _ | exact lk2 (by assumption) _ | exact fb_l0 (by assumption) | exact fb_l1 (by assumption) | exact sb_l0 (by assumption) | exact sb_l1 (by assumption) | exact sb_l2 (by assumption) | exact sb_l3 (by assumption) | exact tb_l0 (by assumption) | exact tb_l1 (by assumption) | exact tb_l2 (by assumption) | exact lk2 (sb_li (by assumption)) _ | exact fb_l0 (sb_f (by assumption)) | exact fb_l1 (sb_f (by assumption))) ?_
  refine rw_getI F dc_X4_passTick_16 fl_RX4_50 (by first | rfl | assumption | decide | exact r73_k (by assumption) | exact fb_k (by assumption) | exact sb_k (by assumption) | exact tb_k (by assumption) | exact sb_li (by assumption) | exact sb_s (by assumption) | exact tb_n (by assumption) | exact fb_k (sb_f (by assumption))) (by first | rfl | assumption | exact lk6 (by assumption) _ | exact lk2 (by assumption) _ | exact fb_l0 (by assumption) | exact fb_l1 (by assumption) | exact sb_l0 (by assumption) | exact sb_l1 (by assumption) | exact sb_l2 (by assumption) | exact sb_l3 (by assumption) | exact tb_l0 (by assumption) | exact tb_l1 (by assumption) | exact tb_l2 (by assumption) | exact lk2 (sb_li (by assumption)) _ | exact fb_l0 (sb_f (by assumption)) | exact fb_l1 (sb_f (by assumption))) ?_
  obtain ⟨hs1, hp⟩ := hp
  refine rw_cVv F [_, _] dc_X4_passTick_19 mv_X1_sail ml_RX4_53 (by decide) (rc_1 (by first | rfl | assumption | decide | exact r73_k (by assumption) | exact fb_k (by assumption) | exact sb_k (by assumption) | exact tb_k (by assumption) | exact sb_li (by assumption) | exact sb_s (by assumption) | exact tb_n (by assumption) | exact fb_k (sb_f (by assumption)))) rfl rfl (Nat.le_of_ble_eq_true rfl) (cr_X1_sail hs1) ?_
  refine rw_aload_n F dc_X4_passTick_22 rfl ?_
  refine rw_getR F dc_X4_passTick_23 fl_RX4_12 (by first | rfl | assumption | decide | exact r73_k (by assumption) | exact fb_k (by assumption) | exact sb_k (by assumption) | exact tb_k (by assumption) | exact sb_li (by assumption) | exact sb_s (by assumption) | exact tb_n (by assumption) | exact fb_k (sb_f (by assumption))) (by first | rfl | assumption | exact lk6 (by assumption) _ | exact lk2 (by assumption) _ | exact fb_l0 (by assumption) | exact fb_l1 (by assumption) | exact sb_l0 (by assumption) | exact sb_l1 (by assumption) | exact sb_l2 (by assumption) | exact sb_l3 (by assumption) | exact tb_l0 (by assumption) | exact tb_l1 (by assumption) | exact tb_l2 (by assumption) | exact lk2 (sb_li (by assumption)) _ | exact fb_l0 (sb_f (by assumption)) | exact fb_l1 (sb_f (by assumption))) ?_
  refine rw_cVv F [] dc_X4_passTick_26 mv_X2_passTick ml_RX4_57 (by decide) (rc_2 (by first | rfl | assumption | decide | exact r73_k (by assumption) | exact fb_k (by assumption) | exact sb_k (by assumption) | exact tb_k (by assumption) | exact sb_li (by assumption) | exact sb_s (by assumption) | exact tb_n (by assumption) | exact fb_k (sb_f (by assumption)))) rfl rfl (Nat.le_of_ble_eq_true rfl) ct_X2_passTick ?_
  refine rw_vret F dc_X4_passTick_29 rfl ?_
  exact ⟨rfl, by first | (simp only [g_X4_passTick]; done) | rfl | (simp only [g_X4_passTick]; rfl)⟩
def g_X4_passNight (N : Nat) (b : Nat)  (τ : tw_T) : tw_T := if ((g_X4_draw b (tw_sr (g_X4_draw b τ) (b + 1) (upd ((g_X4_draw b τ) (b + 1)) 0 ((τ (b + 1) 0) ^^^ ((1 : Int32) <<< (((f_X4_draw b τ) - (f_X4_draw b τ) / 12 * 12) &&& 31)))))) (b + 2) 1) ≤ ((f_X4_draw b (tw_sr (g_X4_draw b τ) (b + 1) (upd ((g_X4_draw b τ) (b + 1)) 0 ((τ (b + 1) 0) ^^^ ((1 : Int32) <<< (((f_X4_draw b τ) - (f_X4_draw b τ) / 12 * 12) &&& 31)))))) - (f_X4_draw b (tw_sr (g_X4_draw b τ) (b + 1) (upd ((g_X4_draw b τ) (b + 1)) 0 ((τ (b + 1) 0) ^^^ ((1 : Int32) <<< (((f_X4_draw b τ) - (f_X4_draw b τ) / 12 * 12) &&& 31)))))) / 8 * 8) then (g_X4_passTick N b (g_X4_draw b (tw_sr (g_X4_draw b τ) (b + 1) (upd ((g_X4_draw b τ) (b + 1)) 0 ((τ (b + 1) 0) ^^^ ((1 : Int32) <<< (((f_X4_draw b τ) - (f_X4_draw b τ) / 12 * 12) &&& 31))))))) else (g_X4_passTick N b (tw_sr (g_X4_draw b (tw_sr (g_X4_draw b τ) (b + 1) (upd ((g_X4_draw b τ) (b + 1)) 0 ((τ (b + 1) 0) ^^^ ((1 : Int32) <<< (((f_X4_draw b τ) - (f_X4_draw b τ) / 12 * 12) &&& 31)))))) (b + 2 + 2 + ((f_X4_draw b (tw_sr (g_X4_draw b τ) (b + 1) (upd ((g_X4_draw b τ) (b + 1)) 0 ((τ (b + 1) 0) ^^^ ((1 : Int32) <<< (((f_X4_draw b τ) - (f_X4_draw b τ) / 12 * 12) &&& 31)))))) - (f_X4_draw b (tw_sr (g_X4_draw b τ) (b + 1) (upd ((g_X4_draw b τ) (b + 1)) 0 ((τ (b + 1) 0) ^^^ ((1 : Int32) <<< (((f_X4_draw b τ) - (f_X4_draw b τ) / 12 * 12) &&& 31)))))) / 8 * 8).toNatClampNeg) (upd ((g_X4_draw b (tw_sr (g_X4_draw b τ) (b + 1) (upd ((g_X4_draw b τ) (b + 1)) 0 ((τ (b + 1) 0) ^^^ ((1 : Int32) <<< (((f_X4_draw b τ) - (f_X4_draw b τ) / 12 * 12) &&& 31)))))) (b + 2 + 2 + ((f_X4_draw b (tw_sr (g_X4_draw b τ) (b + 1) (upd ((g_X4_draw b τ) (b + 1)) 0 ((τ (b + 1) 0) ^^^ ((1 : Int32) <<< (((f_X4_draw b τ) - (f_X4_draw b τ) / 12 * 12) &&& 31)))))) - (f_X4_draw b (tw_sr (g_X4_draw b τ) (b + 1) (upd ((g_X4_draw b τ) (b + 1)) 0 ((τ (b + 1) 0) ^^^ ((1 : Int32) <<< (((f_X4_draw b τ) - (f_X4_draw b τ) / 12 * 12) &&& 31)))))) / 8 * 8).toNatClampNeg)) 3 (if (5 : Int32) < (((g_X4_draw b (tw_sr (g_X4_draw b τ) (b + 1) (upd ((g_X4_draw b τ) (b + 1)) 0 ((τ (b + 1) 0) ^^^ ((1 : Int32) <<< (((f_X4_draw b τ) - (f_X4_draw b τ) / 12 * 12) &&& 31)))))) (b + 2 + 2 + ((f_X4_draw b (tw_sr (g_X4_draw b τ) (b + 1) (upd ((g_X4_draw b τ) (b + 1)) 0 ((τ (b + 1) 0) ^^^ ((1 : Int32) <<< (((f_X4_draw b τ) - (f_X4_draw b τ) / 12 * 12) &&& 31)))))) - (f_X4_draw b (tw_sr (g_X4_draw b τ) (b + 1) (upd ((g_X4_draw b τ) (b + 1)) 0 ((τ (b + 1) 0) ^^^ ((1 : Int32) <<< (((f_X4_draw b τ) - (f_X4_draw b τ) / 12 * 12) &&& 31)))))) / 8 * 8).toNatClampNeg) 3) + 1) then (5 : Int32) else (((g_X4_draw b (tw_sr (g_X4_draw b τ) (b + 1) (upd ((g_X4_draw b τ) (b + 1)) 0 ((τ (b + 1) 0) ^^^ ((1 : Int32) <<< (((f_X4_draw b τ) - (f_X4_draw b τ) / 12 * 12) &&& 31)))))) (b + 2 + 2 + ((f_X4_draw b (tw_sr (g_X4_draw b τ) (b + 1) (upd ((g_X4_draw b τ) (b + 1)) 0 ((τ (b + 1) 0) ^^^ ((1 : Int32) <<< (((f_X4_draw b τ) - (f_X4_draw b τ) / 12 * 12) &&& 31)))))) - (f_X4_draw b (tw_sr (g_X4_draw b τ) (b + 1) (upd ((g_X4_draw b τ) (b + 1)) 0 ((τ (b + 1) 0) ^^^ ((1 : Int32) <<< (((f_X4_draw b τ) - (f_X4_draw b τ) / 12 * 12) &&& 31)))))) / 8 * 8).toNatClampNeg) 3) + 1)))))
def p_X4_passNight (N : Nat) (b : Nat)  (τ : tw_T) : Prop := if ((g_X4_draw b (tw_sr (g_X4_draw b τ) (b + 1) (upd ((g_X4_draw b τ) (b + 1)) 0 ((τ (b + 1) 0) ^^^ ((1 : Int32) <<< (((f_X4_draw b τ) - (f_X4_draw b τ) / 12 * 12) &&& 31)))))) (b + 2) 1) ≤ ((f_X4_draw b (tw_sr (g_X4_draw b τ) (b + 1) (upd ((g_X4_draw b τ) (b + 1)) 0 ((τ (b + 1) 0) ^^^ ((1 : Int32) <<< (((f_X4_draw b τ) - (f_X4_draw b τ) / 12 * 12) &&& 31)))))) - (f_X4_draw b (tw_sr (g_X4_draw b τ) (b + 1) (upd ((g_X4_draw b τ) (b + 1)) 0 ((τ (b + 1) 0) ^^^ ((1 : Int32) <<< (((f_X4_draw b τ) - (f_X4_draw b τ) / 12 * 12) &&& 31)))))) / 8 * 8) then (p_X4_passTick N b (g_X4_draw b (tw_sr (g_X4_draw b τ) (b + 1) (upd ((g_X4_draw b τ) (b + 1)) 0 ((τ (b + 1) 0) ^^^ ((1 : Int32) <<< (((f_X4_draw b τ) - (f_X4_draw b τ) / 12 * 12) &&& 31)))))) ∧ True) else (vp_in ((f_X4_draw b (tw_sr (g_X4_draw b τ) (b + 1) (upd ((g_X4_draw b τ) (b + 1)) 0 ((τ (b + 1) 0) ^^^ ((1 : Int32) <<< (((f_X4_draw b τ) - (f_X4_draw b τ) / 12 * 12) &&& 31)))))) - (f_X4_draw b (tw_sr (g_X4_draw b τ) (b + 1) (upd ((g_X4_draw b τ) (b + 1)) 0 ((τ (b + 1) 0) ^^^ ((1 : Int32) <<< (((f_X4_draw b τ) - (f_X4_draw b τ) / 12 * 12) &&& 31)))))) / 8 * 8) 8 ∧ (p_X4_passTick N b (tw_sr (g_X4_draw b (tw_sr (g_X4_draw b τ) (b + 1) (upd ((g_X4_draw b τ) (b + 1)) 0 ((τ (b + 1) 0) ^^^ ((1 : Int32) <<< (((f_X4_draw b τ) - (f_X4_draw b τ) / 12 * 12) &&& 31)))))) (b + 2 + 2 + ((f_X4_draw b (tw_sr (g_X4_draw b τ) (b + 1) (upd ((g_X4_draw b τ) (b + 1)) 0 ((τ (b + 1) 0) ^^^ ((1 : Int32) <<< (((f_X4_draw b τ) - (f_X4_draw b τ) / 12 * 12) &&& 31)))))) - (f_X4_draw b (tw_sr (g_X4_draw b τ) (b + 1) (upd ((g_X4_draw b τ) (b + 1)) 0 ((τ (b + 1) 0) ^^^ ((1 : Int32) <<< (((f_X4_draw b τ) - (f_X4_draw b τ) / 12 * 12) &&& 31)))))) / 8 * 8).toNatClampNeg) (upd ((g_X4_draw b (tw_sr (g_X4_draw b τ) (b + 1) (upd ((g_X4_draw b τ) (b + 1)) 0 ((τ (b + 1) 0) ^^^ ((1 : Int32) <<< (((f_X4_draw b τ) - (f_X4_draw b τ) / 12 * 12) &&& 31)))))) (b + 2 + 2 + ((f_X4_draw b (tw_sr (g_X4_draw b τ) (b + 1) (upd ((g_X4_draw b τ) (b + 1)) 0 ((τ (b + 1) 0) ^^^ ((1 : Int32) <<< (((f_X4_draw b τ) - (f_X4_draw b τ) / 12 * 12) &&& 31)))))) - (f_X4_draw b (tw_sr (g_X4_draw b τ) (b + 1) (upd ((g_X4_draw b τ) (b + 1)) 0 ((τ (b + 1) 0) ^^^ ((1 : Int32) <<< (((f_X4_draw b τ) - (f_X4_draw b τ) / 12 * 12) &&& 31)))))) / 8 * 8).toNatClampNeg)) 3 (if (5 : Int32) < (((g_X4_draw b (tw_sr (g_X4_draw b τ) (b + 1) (upd ((g_X4_draw b τ) (b + 1)) 0 ((τ (b + 1) 0) ^^^ ((1 : Int32) <<< (((f_X4_draw b τ) - (f_X4_draw b τ) / 12 * 12) &&& 31)))))) (b + 2 + 2 + ((f_X4_draw b (tw_sr (g_X4_draw b τ) (b + 1) (upd ((g_X4_draw b τ) (b + 1)) 0 ((τ (b + 1) 0) ^^^ ((1 : Int32) <<< (((f_X4_draw b τ) - (f_X4_draw b τ) / 12 * 12) &&& 31)))))) - (f_X4_draw b (tw_sr (g_X4_draw b τ) (b + 1) (upd ((g_X4_draw b τ) (b + 1)) 0 ((τ (b + 1) 0) ^^^ ((1 : Int32) <<< (((f_X4_draw b τ) - (f_X4_draw b τ) / 12 * 12) &&& 31)))))) / 8 * 8).toNatClampNeg) 3) + 1) then (5 : Int32) else (((g_X4_draw b (tw_sr (g_X4_draw b τ) (b + 1) (upd ((g_X4_draw b τ) (b + 1)) 0 ((τ (b + 1) 0) ^^^ ((1 : Int32) <<< (((f_X4_draw b τ) - (f_X4_draw b τ) / 12 * 12) &&& 31)))))) (b + 2 + 2 + ((f_X4_draw b (tw_sr (g_X4_draw b τ) (b + 1) (upd ((g_X4_draw b τ) (b + 1)) 0 ((τ (b + 1) 0) ^^^ ((1 : Int32) <<< (((f_X4_draw b τ) - (f_X4_draw b τ) / 12 * 12) &&& 31)))))) - (f_X4_draw b (tw_sr (g_X4_draw b τ) (b + 1) (upd ((g_X4_draw b τ) (b + 1)) 0 ((τ (b + 1) 0) ^^^ ((1 : Int32) <<< (((f_X4_draw b τ) - (f_X4_draw b τ) / 12 * 12) &&& 31)))))) / 8 * 8).toNatClampNeg) 3) + 1)))) ∧ True))
theorem ct_X4_passNight {E : tw_E} {b : Nat} {N : Nat}   {τ : tw_T} (hp : p_X4_passNight N b τ) (hb : tw_sb b := by first | assumption | exact (show _ ∈ ([1, 14, 31] : List Nat) by decide)) : tw_Cv E 6 mX4_passNight [.ref b] τ (g_X4_passNight N b τ) := by
  unfold p_X4_passNight at hp
  refine ct_of (by decide) (by simp [Value.category]) (Nat.le_of_ble_eq_true rfl) (fun K hE F => ?_)
  subst hE
  refine rw_aload_n F dc_X4_passNight_0 rfl ?_
  refine rw_getR F dc_X4_passNight_1 fl_RX4_12 (by first | rfl | assumption | decide | exact r73_k (by assumption) | exact fb_k (by assumption) | exact sb_k (by assumption) | exact tb_k (by assumption) | exact sb_li (by assumption) | exact sb_s (by assumption) | exact tb_n (by assumption) | exact fb_k (sb_f (by assumption))) (by first | rfl | assumption | exact lk6 (by assumption) _ | exact lk2 (by assumption) _ | exact fb_l0 (by assumption) | exact fb_l1 (by assumption) | exact sb_l0 (by assumption) | exact sb_l1 (by assumption) | exact sb_l2 (by assumption) | exact sb_l3 (by assumption) | exact tb_l0 (by assumption) | exact tb_l1 (by assumption) | exact tb_l2 (by assumption) | exact lk2 (sb_li (by assumption)) _ | exact fb_l0 (sb_f (by assumption)) | exact fb_l1 (sb_f (by assumption))) ?_
  refine rw_dup F dc_X4_passNight_4 rfl ?_
  refine rw_getI F dc_X4_passNight_5 fl_RX4_60 (by first | rfl | assumption | decide | exact r73_k (by assumption) | exact fb_k (by assumption) | exact sb_k (by assumption) | exact tb_k (by assumption) | exact sb_li (by assumption) | exact sb_s (by assumption) | exact tb_n (by assumption) | exact fb_k (sb_f (by assumption))) (by first | rfl | assumption | exact lk6 (by assumption) _ | exact lk2 (by assumption) _ | exact fb_l0 (by assumption) | exact fb_l1 (by assumption) | exact sb_l0 (by assumption) | exact sb_l1 (by assumption) | exact sb_l2 (by assumption) | exact sb_l3 (by assumption) | exact tb_l0 (by assumption) | exact tb_l1 (by assumption) | exact tb_l2 (by assumption) | exact lk2 (sb_li (by assumption)) _ | exact fb_l0 (sb_f (by assumption)) | exact fb_l1 (sb_f (by assumption))) ?_
  refine rw_iconst (v := 1) F dc_X4_passNight_8 rfl ?_
  refine rw_aload_n F dc_X4_passNight_9 rfl ?_
  refine rw_cVi F [] dc_X4_passNight_10 mv_X4_draw ml_RX4_63 (by decide) (rc_4 (by first | rfl | assumption | decide | exact r73_k (by assumption) | exact fb_k (by assumption) | exact sb_k (by assumption) | exact tb_k (by assumption) | exact sb_li (by assumption) | exact sb_s (by assumption) | exact tb_n (by assumption) | exact fb_k (sb_f (by assumption)))) rfl rfl (Nat.le_of_ble_eq_true rfl) ct_X4_draw ?_
  refine rw_bipush (v := 12) F dc_X4_passNight_13 rfl ?_
  refine rw_irem F dc_X4_passNight_15 (by decide) ?_
  refine rw_ishl F dc_X4_passNight_16 ?_
  refine rw_ixor F dc_X4_passNight_17 ?_
  refine rw_put F dc_X4_passNight_18 pf_RX4_60 (by first | rfl | assumption | decide | exact r73_k (by assumption) | exact fb_k (by assumption) | exact sb_k (by assumption) | exact tb_k (by assumption) | exact sb_li (by assumption) | exact sb_s (by assumption) | exact tb_n (by assumption) | exact fb_k (sb_f (by assumption))) (by first | rfl | assumption | exact lk6 (by assumption) _ | exact lk2 (by assumption) _ | exact fb_l0 (by assumption) | exact fb_l1 (by assumption) | exact sb_l0 (by assumption) | exact sb_l1 (by assumption) | exact sb_l2 (by assumption) | exact sb_l3 (by assumption) | exact tb_l0 (by assumption) | exact tb_l1 (by assumption) | exact tb_l2 (by assumption) | exact lk2 (sb_li (by assumption)) _ | exact fb_l0 (sb_f (by assumption)) | exact fb_l1 (sb_f (by assumption))) rfl rfl ?_
  refine rw_aload_n F dc_X4_passNight_21 rfl ?_
  refine rw_cVi F [] dc_X4_passNight_22 mv_X4_draw ml_RX4_63 (by decide) (rc_4 (by first | rfl | assumption | decide | exact r73_k (by assumption) | exact fb_k (by assumption) | exact sb_k (by assumption) | exact tb_k (by assumption) | exact sb_li (by assumption) | exact sb_s (by assumption) | exact tb_n (by assumption) | exact fb_k (sb_f (by assumption)))) rfl rfl (Nat.le_of_ble_eq_true rfl) ct_X4_draw ?_
  refine rw_bipush (v := 8) F dc_X4_passNight_25 rfl ?_
  refine rw_irem F dc_X4_passNight_27 (by decide) ?_
  refine rw_istore_n F dc_X4_passNight_28 (by decide) rfl ?_
  refine rw_iload_n F dc_X4_passNight_29 rfl ?_
  refine rw_aload_n F dc_X4_passNight_30 rfl ?_
  refine rw_getR F dc_X4_passNight_31 fl_RX4_21 (by first | rfl | assumption | decide | exact r73_k (by assumption) | exact fb_k (by assumption) | exact sb_k (by assumption) | exact tb_k (by assumption) | exact sb_li (by assumption) | exact sb_s (by assumption) | exact tb_n (by assumption) | exact fb_k (sb_f (by assumption))) (by first | rfl | assumption | exact lk6 (by assumption) _ | exact lk2 (by assumption) _ | exact fb_l0 (by assumption) | exact fb_l1 (by assumption) | exact sb_l0 (by assumption) | exact sb_l1 (by assumption) | exact sb_l2 (by assumption) | exact sb_l3 (by assumption) | exact tb_l0 (by assumption) | exact tb_l1 (by assumption) | exact tb_l2 (by assumption) | exact lk2 (sb_li (by assumption)) _ | exact fb_l0 (sb_f (by assumption)) | exact fb_l1 (sb_f (by assumption))) ?_
  refine rw_getI F dc_X4_passNight_34 fl_RX4_67 (by first | rfl | assumption | decide | exact r73_k (by assumption) | exact fb_k (by assumption) | exact sb_k (by assumption) | exact tb_k (by assumption) | exact sb_li (by assumption) | exact sb_s (by assumption) | exact tb_n (by assumption) | exact fb_k (sb_f (by assumption))) (by first | rfl | assumption | exact lk6 (by assumption) _ | exact lk2 (by assumption) _ | exact fb_l0 (by assumption) | exact fb_l1 (by assumption) | exact sb_l0 (by assumption) | exact sb_l1 (by assumption) | exact sb_l2 (by assumption) | exact sb_l3 (by assumption) | exact tb_l0 (by assumption) | exact tb_l1 (by assumption) | exact tb_l2 (by assumption) | exact lk2 (sb_li (by assumption)) _ | exact fb_l0 (sb_f (by assumption)) | exact fb_l1 (sb_f (by assumption))) ?_
  refine rw_icmp_ge (tgt := 64) F dc_X4_passNight_37 rfl (fun c1 => ?_) (fun c1 => ?_)
  · rw [if_pos c1] at hp
    refine rw_aload_n F dc_X4_passNight_64 rfl ?_
    obtain ⟨hs2, hp⟩ := hp
    refine rw_cVv F [] dc_X4_passNight_65 mv_X4_passTick ml_RX4_85 (by decide) (rc_4 (by first | rfl | assumption | decide | exact r73_k (by assumption) | exact fb_k (by assumption) | exact sb_k (by assumption) | exact tb_k (by assumption) | exact sb_li (by assumption) | exact sb_s (by assumption) | exact tb_n (by assumption) | exact fb_k (sb_f (by assumption)))) rfl rfl (Nat.le_of_ble_eq_true rfl) (ct_X4_passTick hs2) ?_
    refine rw_vret F dc_X4_passNight_68 rfl ?_
    exact ⟨rfl, by first | (simp only [g_X4_passNight, if_pos c1]; done) | rfl | (simp only [g_X4_passNight, if_pos c1]; rfl)⟩
  · rw [if_neg c1] at hp
    refine rw_aload_n F dc_X4_passNight_40 rfl ?_
    refine rw_getR F dc_X4_passNight_41 fl_RX4_21 (by first | rfl | assumption | decide | exact r73_k (by assumption) | exact fb_k (by assumption) | exact sb_k (by assumption) | exact tb_k (by assumption) | exact sb_li (by assumption) | exact sb_s (by assumption) | exact tb_n (by assumption) | exact fb_k (sb_f (by assumption))) (by first | rfl | assumption | exact lk6 (by assumption) _ | exact lk2 (by assumption) _ | exact fb_l0 (by assumption) | exact fb_l1 (by assumption) | exact sb_l0 (by assumption) | exact sb_l1 (by assumption) | exact sb_l2 (by assumption) | exact sb_l3 (by assumption) | exact tb_l0 (by assumption) | exact tb_l1 (by assumption) | exact tb_l2 (by assumption) | exact lk2 (sb_li (by assumption)) _ | exact fb_l0 (sb_f (by assumption)) | exact fb_l1 (sb_f (by assumption))) ?_
    refine rw_getR F dc_X4_passNight_44 fl_RX4_70 (by first | rfl | assumption | decide | exact r73_k (by assumption) | exact fb_k (by assumption) | exact sb_k (by assumption) | exact tb_k (by assumption) | exact sb_li (by assumption) | exact sb_s (by assumption) | exact tb_n (by assumption) | exact fb_k (sb_f (by assumption))) (by first | rfl | assumption | exact lk6 (by assumption) _ | exact lk2 (by assumption) _ | exact fb_l0 (by assumption) | exact fb_l1 (by assumption) | exact sb_l0 (by assumption) | exact sb_l1 (by assumption) | exact sb_l2 (by assumption) | exact sb_l3 (by assumption) | exact tb_l0 (by assumption) | exact tb_l1 (by assumption) | exact tb_l2 (by assumption) | exact lk2 (sb_li (by assumption)) _ | exact fb_l0 (sb_f (by assumption)) | exact fb_l1 (sb_f (by assumption))) ?_
    refine rw_iload_n F dc_X4_passNight_47 rfl ?_
    obtain ⟨hs3, hp⟩ := hp
    refine rw_aaShip F dc_X4_passNight_48 (by first | assumption | exact (show _ ∈ tw_fbL by decide) | exact sb_f (by assumption)) hs3 (fun hk4 => ?_)
    refine rw_astore_n F dc_X4_passNight_49 (by decide) rfl ?_
    refine rw_aload_n F dc_X4_passNight_50 rfl ?_
    refine rw_aload_n F dc_X4_passNight_51 rfl ?_
    refine rw_getI F dc_X4_passNight_52 fl_RX4_74 (by first | rfl | assumption | decide | exact r73_k (by assumption) | exact fb_k (by assumption) | exact sb_k (by assumption) | exact tb_k (by assumption) | exact sb_li (by assumption) | exact sb_s (by assumption) | exact tb_n (by assumption) | exact fb_k (sb_f (by assumption))) (by first | rfl | assumption | exact lk6 (by assumption) _ | exact lk2 (by assumption) _ | exact fb_l0 (by assumption) | exact fb_l1 (by assumption) | exact sb_l0 (by assumption) | exact sb_l1 (by assumption) | exact sb_l2 (by assumption) | exact sb_l3 (by assumption) | exact tb_l0 (by assumption) | exact tb_l1 (by assumption) | exact tb_l2 (by assumption) | exact lk2 (sb_li (by assumption)) _ | exact fb_l0 (sb_f (by assumption)) | exact fb_l1 (sb_f (by assumption))) ?_
    refine rw_iconst (v := 1) F dc_X4_passNight_55 rfl ?_
    refine rw_iadd F dc_X4_passNight_56 ?_
    refine rw_iconst (v := 5) F dc_X4_passNight_57 rfl ?_
    refine rw_min F dc_X4_passNight_58 ml_RX4_79 (by decide) (Nat.le_of_ble_eq_true rfl) wm_min_s wm_i wm_min_c ?_
    refine rw_put F dc_X4_passNight_61 pf_RX4_74 (by first | rfl | assumption | decide | exact r73_k (by assumption) | exact fb_k (by assumption) | exact sb_k (by assumption) | exact tb_k (by assumption) | exact sb_li (by assumption) | exact sb_s (by assumption) | exact tb_n (by assumption) | exact fb_k (sb_f (by assumption))) (by first | rfl | assumption | exact lk6 (by assumption) _ | exact lk2 (by assumption) _ | exact fb_l0 (by assumption) | exact fb_l1 (by assumption) | exact sb_l0 (by assumption) | exact sb_l1 (by assumption) | exact sb_l2 (by assumption) | exact sb_l3 (by assumption) | exact tb_l0 (by assumption) | exact tb_l1 (by assumption) | exact tb_l2 (by assumption) | exact lk2 (sb_li (by assumption)) _ | exact fb_l0 (sb_f (by assumption)) | exact fb_l1 (sb_f (by assumption))) rfl rfl ?_
    refine rw_aload_n F dc_X4_passNight_64 rfl ?_
    obtain ⟨hs5, hp⟩ := hp
    refine rw_cVv F [] dc_X4_passNight_65 mv_X4_passTick ml_RX4_85 (by decide) (rc_4 (by first | rfl | assumption | decide | exact r73_k (by assumption) | exact fb_k (by assumption) | exact sb_k (by assumption) | exact tb_k (by assumption) | exact sb_li (by assumption) | exact sb_s (by assumption) | exact tb_n (by assumption) | exact fb_k (sb_f (by assumption)))) rfl rfl (Nat.le_of_ble_eq_true rfl) (ct_X4_passTick hs5) ?_
    refine rw_vret F dc_X4_passNight_68 rfl ?_
    exact ⟨rfl, by first | (simp only [g_X4_passNight, if_neg c1]; done) | rfl | (simp only [g_X4_passNight, if_neg c1]; rfl)⟩
def g_X4_take (N : Nat) (b : Nat) (o : Nat)  (τ : tw_T) : tw_T := tw_sr (tw_sr (g_X1_take N (b + 2) (o + 2) (g_X2_take (b + 1) (o + 1) τ)) (b + 12) (va_cpy ((g_X1_take N (b + 2) (o + 2) (g_X2_take (b + 1) (o + 1) τ)) (o + 12)) ((g_X1_take N (b + 2) (o + 2) (g_X2_take (b + 1) (o + 1) τ)) (b + 12)) (0 : Int32).toNatClampNeg (0 : Int32).toNatClampNeg (10 : Int32).toNatClampNeg)) b (upd ((tw_sr (g_X1_take N (b + 2) (o + 2) (g_X2_take (b + 1) (o + 1) τ)) (b + 12) (va_cpy ((g_X1_take N (b + 2) (o + 2) (g_X2_take (b + 1) (o + 1) τ)) (o + 12)) ((g_X1_take N (b + 2) (o + 2) (g_X2_take (b + 1) (o + 1) τ)) (b + 12)) (0 : Int32).toNatClampNeg (0 : Int32).toNatClampNeg (10 : Int32).toNatClampNeg)) b) 3 ((tw_sr (g_X1_take N (b + 2) (o + 2) (g_X2_take (b + 1) (o + 1) τ)) (b + 12) (va_cpy ((g_X1_take N (b + 2) (o + 2) (g_X2_take (b + 1) (o + 1) τ)) (o + 12)) ((g_X1_take N (b + 2) (o + 2) (g_X2_take (b + 1) (o + 1) τ)) (b + 12)) (0 : Int32).toNatClampNeg (0 : Int32).toNatClampNeg (10 : Int32).toNatClampNeg)) o 3))
def p_X4_take (N : Nat) (b : Nat) (o : Nat)  (τ : tw_T) : Prop := p_X1_take N (b + 2) (o + 2) (g_X2_take (b + 1) (o + 1) τ) ∧ ((¬ (0 : Int32) < 0 ∧ ¬ (0 : Int32) < 0 ∧ ¬ (10 : Int32) < 0 ∧ (0 : Int32).toNatClampNeg + (10 : Int32).toNatClampNeg ≤ 10 ∧ (0 : Int32).toNatClampNeg + (10 : Int32).toNatClampNeg ≤ 10) ∧ True)
theorem ct_X4_take {E : tw_E} {b : Nat} {o : Nat} {N : Nat}   {τ : tw_T} (hp : p_X4_take N b o τ) (hb : tw_sb b := by first | assumption | exact (show _ ∈ ([1, 14, 31] : List Nat) by decide)) (ho : tw_sb o := by first | assumption | exact (show _ ∈ ([1, 14, 31] : List Nat) by decide)) : tw_Cv E 3 mX4_take [.ref b, .ref o] τ (g_X4_take N b o τ) := by
  unfold p_X4_take at hp
  refine ct_of (by decide) (by simp [Value.category]) (Nat.le_of_ble_eq_true rfl) (fun K hE F => ?_)
  subst hE
  refine rw_aload_n F dc_X4_take_0 rfl ?_
  refine rw_getR F dc_X4_take_1 fl_RX4_12 (by first | rfl | assumption | decide | exact r73_k (by assumption) | exact fb_k (by assumption) | exact sb_k (by assumption) | exact tb_k (by assumption) | exact sb_li (by assumption) | exact sb_s (by assumption) | exact tb_n (by assumption) | exact fb_k (sb_f (by assumption))) (by first | rfl | assumption | exact lk6 (by assumption) _ | exact lk2 (by assumption) _ | exact fb_l0 (by assumption) | exact fb_l1 (by assumption) | exact sb_l0 (by assumption) | exact sb_l1 (by assumption) | exact sb_l2 (by assumption) | exact sb_l3 (by assumption) | exact tb_l0 (by assumption) | exact tb_l1 (by assumption) | exact tb_l2 (by assumption) | exact lk2 (sb_li (by assumption)) _ | exact fb_l0 (sb_f (by assumption)) | exact fb_l1 (sb_f (by assumption))) ?_
  refine rw_aload_n F dc_X4_take_4 rfl ?_
  refine rw_getR F dc_X4_take_5 fl_RX4_12 (by first | rfl | assumption | decide | exact r73_k (by assumption) | exact fb_k (by assumption) | exact sb_k (by assumption) | exact tb_k (by assumption) | exact sb_li (by assumption) | exact sb_s (by assumption) | exact tb_n (by assumption) | exact fb_k (sb_f (by assumption))) (by first | rfl | assumption | exact lk6 (by assumption) _ | exact lk2 (by assumption) _ | exact fb_l0 (by assumption) | exact fb_l1 (by assumption) | exact sb_l0 (by assumption) | exact sb_l1 (by assumption) | exact sb_l2 (by assumption) | exact sb_l3 (by assumption) | exact tb_l0 (by assumption) | exact tb_l1 (by assumption) | exact tb_l2 (by assumption) | exact lk2 (sb_li (by assumption)) _ | exact fb_l0 (sb_f (by assumption)) | exact fb_l1 (sb_f (by assumption))) ?_
  refine rw_cVv F [_] dc_X4_take_8 mv_X2_take ml_RX4_33 (by decide) (rc_2 (by first | rfl | assumption | decide | exact r73_k (by assumption) | exact fb_k (by assumption) | exact sb_k (by assumption) | exact tb_k (by assumption) | exact sb_li (by assumption) | exact sb_s (by assumption) | exact tb_n (by assumption) | exact fb_k (sb_f (by assumption)))) rfl rfl (Nat.le_of_ble_eq_true rfl) ct_X2_take ?_
  refine rw_aload_n F dc_X4_take_11 rfl ?_
  refine rw_getR F dc_X4_take_12 fl_RX4_21 (by first | rfl | assumption | decide | exact r73_k (by assumption) | exact fb_k (by assumption) | exact sb_k (by assumption) | exact tb_k (by assumption) | exact sb_li (by assumption) | exact sb_s (by assumption) | exact tb_n (by assumption) | exact fb_k (sb_f (by assumption))) (by first | rfl | assumption | exact lk6 (by assumption) _ | exact lk2 (by assumption) _ | exact fb_l0 (by assumption) | exact fb_l1 (by assumption) | exact sb_l0 (by assumption) | exact sb_l1 (by assumption) | exact sb_l2 (by assumption) | exact sb_l3 (by assumption) | exact tb_l0 (by assumption) | exact tb_l1 (by assumption) | exact tb_l2 (by assumption) | exact lk2 (sb_li (by assumption)) _ | exact fb_l0 (sb_f (by assumption)) | exact fb_l1 (sb_f (by assumption))) ?_
  refine rw_aload_n F dc_X4_take_15 rfl ?_
  refine rw_getR F dc_X4_take_16 fl_RX4_21 (by first | rfl | assumption | decide | exact r73_k (by assumption) | exact fb_k (by assumption) | exact sb_k (by assumption) | exact tb_k (by assumption) | exact sb_li (by assumption) | exact sb_s (by assumption) | exact tb_n (by assumption) | exact fb_k (sb_f (by assumption))) (by first | rfl | assumption | exact lk6 (by assumption) _ | exact lk2 (by assumption) _ | exact fb_l0 (by assumption) | exact fb_l1 (by assumption) | exact sb_l0 (by assumption) | exact sb_l1 (by assumption) | exact sb_l2 (by assumption) | exact sb_l3 (by assumption) | exact tb_l0 (by assumption) | exact tb_l1 (by assumption) | exact tb_l2 (by assumption) | exact lk2 (sb_li (by assumption)) _ | exact fb_l0 (sb_f (by assumption)) | exact fb_l1 (sb_f (by assumption))) ?_
  obtain ⟨hs1, hp⟩ := hp
  refine rw_cVv F [_] dc_X4_take_19 mv_X1_take ml_RX4_37 (by decide) (rc_1 (by first | rfl | assumption | decide | exact r73_k (by assumption) | exact fb_k (by assumption) | exact sb_k (by assumption) | exact tb_k (by assumption) | exact sb_li (by assumption) | exact sb_s (by assumption) | exact tb_n (by assumption) | exact fb_k (sb_f (by assumption)))) rfl rfl (Nat.le_of_ble_eq_true rfl) (cr_X1_take hs1) ?_
  refine rw_aload_n F dc_X4_take_22 rfl ?_
  refine rw_getR F dc_X4_take_23 fl_RX4_25 (by first | rfl | assumption | decide | exact r73_k (by assumption) | exact fb_k (by assumption) | exact sb_k (by assumption) | exact tb_k (by assumption) | exact sb_li (by assumption) | exact sb_s (by assumption) | exact tb_n (by assumption) | exact fb_k (sb_f (by assumption))) (by first | rfl | assumption | exact lk6 (by assumption) _ | exact lk2 (by assumption) _ | exact fb_l0 (by assumption) | exact fb_l1 (by assumption) | exact sb_l0 (by assumption) | exact sb_l1 (by assumption) | exact sb_l2 (by assumption) | exact sb_l3 (by assumption) | exact tb_l0 (by assumption) | exact tb_l1 (by assumption) | exact tb_l2 (by assumption) | exact lk2 (sb_li (by assumption)) _ | exact fb_l0 (sb_f (by assumption)) | exact fb_l1 (sb_f (by assumption))) ?_
  refine rw_iconst (v := 0) F dc_X4_take_26 rfl ?_
  refine rw_aload_n F dc_X4_take_27 rfl ?_
  refine rw_getR F dc_X4_take_28 fl_RX4_25 (by first | rfl | assumption | decide | exact r73_k (by assumption) | exact fb_k (by assumption) | exact sb_k (by assumption) | exact tb_k (by assumption) | exact sb_li (by assumption) | exact sb_s (by assumption) | exact tb_n (by assumption) | exact fb_k (sb_f (by assumption))) (by first | rfl | assumption | exact lk6 (by assumption) _ | exact lk2 (by assumption) _ | exact fb_l0 (by assumption) | exact fb_l1 (by assumption) | exact sb_l0 (by assumption) | exact sb_l1 (by assumption) | exact sb_l2 (by assumption) | exact sb_l3 (by assumption) | exact tb_l0 (by assumption) | exact tb_l1 (by assumption) | exact tb_l2 (by assumption) | exact lk2 (sb_li (by assumption)) _ | exact fb_l0 (sb_f (by assumption)) | exact fb_l1 (sb_f (by assumption))) ?_
  refine rw_iconst (v := 0) F dc_X4_take_31 rfl ?_
  refine rw_bipush (v := 10) F dc_X4_take_32 rfl ?_
  obtain ⟨hs2, hp⟩ := hp
  refine rw_copy F dc_X4_take_34 ml_RX4_40 (by decide) (Nat.le_of_ble_eq_true rfl) wa_n wa_s wa_i (by first | rfl | assumption | decide | exact r73_k (by assumption) | exact fb_k (by assumption) | exact sb_k (by assumption) | exact tb_k (by assumption) | exact sb_li (by assumption) | exact sb_s (by assumption) | exact tb_n (by assumption) | exact fb_k (sb_f (by assumption))) (by first | rfl | assumption | decide | exact r73_k (by assumption) | exact fb_k (by assumption) | exact sb_k (by assumption) | exact tb_k (by assumption) | exact sb_li (by assumption) | exact sb_s (by assumption) | exact tb_n (by assumption) | exact fb_k (sb_f (by assumption))) hs2.1 hs2.2.1 hs2.2.2.1 (Nat.le_trans hs2.2.2.2.1 (Nat.le_of_eq (Eq.symm (by first | rfl | exact r73_n (by assumption) | exact sb_sn (by assumption) | exact tb_nn (by assumption))))) (Nat.le_trans hs2.2.2.2.2 (Nat.le_of_eq (Eq.symm (by first | rfl | exact r73_n (by assumption) | exact sb_sn (by assumption) | exact tb_nn (by assumption))))) ?_
  refine rw_aload_n F dc_X4_take_37 rfl ?_
  refine rw_aload_n F dc_X4_take_38 rfl ?_
  refine rw_getI F dc_X4_take_39 fl_RX4_29 (by first | rfl | assumption | decide | exact r73_k (by assumption) | exact fb_k (by assumption) | exact sb_k (by assumption) | exact tb_k (by assumption) | exact sb_li (by assumption) | exact sb_s (by assumption) | exact tb_n (by assumption) | exact fb_k (sb_f (by assumption))) (by first | rfl | assumption | exact lk6 (by assumption) _ | exact lk2 (by assumption) _ | exact fb_l0 (by assumption) | exact fb_l1 (by assumption) | exact sb_l0 (by assumption) | exact sb_l1 (by assumption) | exact sb_l2 (by assumption) | exact sb_l3 (by assumption) | exact tb_l0 (by assumption) | exact tb_l1 (by assumption) | exact tb_l2 (by assumption) | exact lk2 (sb_li (by assumption)) _ | exact fb_l0 (sb_f (by assumption)) | exact fb_l1 (sb_f (by assumption))) ?_
  refine rw_put F dc_X4_take_42 pf_RX4_29 (by first | rfl | assumption | decide | exact r73_k (by assumption) | exact fb_k (by assumption) | exact sb_k (by assumption) | exact tb_k (by assumption) | exact sb_li (by assumption) | exact sb_s (by assumption) | exact tb_n (by assumption) | exact fb_k (sb_f (by assumption))) (by first | rfl | assumption | exact lk6 (by assumption) _ | exact lk2 (by assumption) _ | exact fb_l0 (by assumption) | exact fb_l1 (by assumption) | exact sb_l0 (by assumption) | exact sb_l1 (by assumption) | exact sb_l2 (by assumption) | exact sb_l3 (by assumption) | exact tb_l0 (by assumption) | exact tb_l1 (by assumption) | exact tb_l2 (by assumption) | exact lk2 (sb_li (by assumption)) _ | exact fb_l0 (sb_f (by assumption)) | exact fb_l1 (sb_f (by assumption))) rfl rfl ?_
  refine rw_vret F dc_X4_take_45 rfl ?_
  exact ⟨rfl, by first | (simp only [g_X4_take]; done) | rfl | (simp only [g_X4_take]; rfl)⟩
def f_X5_isMissing (t : Nat)  (τ : tw_T) : Int32 := if (τ t 1) = (0 : Int32) then 1 else 0
theorem ct_X5_isMissing {E : tw_E} {t : Nat}   {τ : tw_T}  (ht : tw_tb t := by first | assumption | exact (show _ ∈ ([182, 184, 186, 188] : List Nat) by decide)) : tw_Ci E 1 mX5_isMissing [.ref t] τ (f_X5_isMissing t τ) (τ) := by
  refine ct_of (by decide) (by simp [Value.category]) (Nat.le_of_ble_eq_true rfl) (fun K hE F => ?_)
  subst hE
  refine rw_aload_n F dc_X5_isMissing_0 rfl ?_
  refine rw_getI F dc_X5_isMissing_1 fl_RX5_15 (by first | rfl | assumption | decide | exact r73_k (by assumption) | exact fb_k (by assumption) | exact sb_k (by assumption) | exact tb_k (by assumption) | exact sb_li (by assumption) | exact sb_s (by assumption) | exact tb_n (by assumption) | exact fb_k (sb_f (by assumption))) (by first | rfl | assumption | exact lk6 (by assumption) _ | exact lk2 (by assumption) _ | exact fb_l0 (by assumption) | exact fb_l1 (by assumption) | exact sb_l0 (by assumption) | exact sb_l1 (by assumption) | exact sb_l2 (by assumption) | exact sb_l3 (by assumption) | exact tb_l0 (by assumption) | exact tb_l1 (by assumption) | exact tb_l2 (by assumption) | exact lk2 (sb_li (by assumption)) _ | exact fb_l0 (sb_f (by assumption)) | exact fb_l1 (sb_f (by assumption))) ?_
  refine rw_if_ne (tgt := 11) F dc_X5_isMissing_4 rfl (fun c1 => ?_) (fun c1 => ?_)
  · refine rw_iconst (v := 0) F dc_X5_isMissing_11 rfl ?_
    refine rw_iret F dc_X5_isMissing_12 rfl rfl ?_
    exact ⟨by first | (simp only [f_X5_isMissing, if_neg c1]; done) | rfl | (simp only [f_X5_isMissing, if_neg c1]; rfl), by first | (simp only [f_X5_isMissing, if_neg c1]; done) | rfl | (simp only [f_X5_isMissing, if_neg c1]; rfl)⟩
  · refine rw_iconst (v := 1) F dc_X5_isMissing_7 rfl ?_
    refine rw_goto (tgt := 12) F dc_X5_isMissing_8 rfl ?_
    refine rw_iret F dc_X5_isMissing_12 rfl rfl ?_
    exact ⟨by first | (simp only [f_X5_isMissing, if_pos c1]; done) | rfl | (simp only [f_X5_isMissing, if_pos c1]; rfl), by first | (simp only [f_X5_isMissing, if_pos c1]; done) | rfl | (simp only [f_X5_isMissing, if_pos c1]; rfl)⟩
def lg_X5_renew_20 (N : Nat) (t : Nat) : Nat → Int32 → Int32 → Int32 → tw_T → tw_T
  | 0, _, _, _, τ => τ
  | n + 1, x1, x2, x3, τ => if (40 : Int32) ≤ x3 then τ else (lg_X5_renew_20 N t n x1 x2 (x3 + 1) (tw_sr τ (t + 1) (upd (τ (t + 1)) x3.toNatClampNeg 0)))
def lo_X5_renew_20 (N : Nat) (t : Nat) : Nat → Int32 → Int32 → Int32 → tw_T → Prop
  | 0, _, _, _, _ => False
  | n + 1, x1, x2, x3, τ => if (40 : Int32) ≤ x3 then True else (vp_in x3 40 ∧ (lo_X5_renew_20 N t n x1 x2 (x3 + 1) (tw_sr τ (t + 1) (upd (τ (t + 1)) x3.toNatClampNeg 0))))
def g_X5_renew (N : Nat) (t : Nat) (x1 : Int32) (x2 : Int32) (τ : tw_T) : tw_T := if x1 = (0 : Int32) then (lg_X5_renew_20 N t N x1 x2 0 (tw_sr (tw_sr τ t (upd (τ t) 1 x1)) t (upd ((tw_sr τ t (upd (τ t) 1 x1)) t) 2 0))) else (lg_X5_renew_20 N t N x1 x2 0 (tw_sr (tw_sr τ t (upd (τ t) 1 x1)) t (upd ((tw_sr τ t (upd (τ t) 1 x1)) t) 2 x2)))
def p_X5_renew (N : Nat) (t : Nat) (x1 : Int32) (x2 : Int32) (τ : tw_T) : Prop := if x1 = (0 : Int32) then (lo_X5_renew_20 N t N x1 x2 0 (tw_sr (tw_sr τ t (upd (τ t) 1 x1)) t (upd ((tw_sr τ t (upd (τ t) 1 x1)) t) 2 0))) else (lo_X5_renew_20 N t N x1 x2 0 (tw_sr (tw_sr τ t (upd (τ t) 1 x1)) t (upd ((tw_sr τ t (upd (τ t) 1 x1)) t) 2 x2)))
theorem lp_X5_renew_20 {K : tw_K} {Q : Option Value → tw_T → Prop} (F : tw_F K mX5_renew 1 Q) {t : Nat} (ht : tw_tb t) (N : Nat)  : ∀ (n : Nat) (x1 : Int32) (x2 : Int32) (x3 : Int32) (τ : tw_T), lo_X5_renew_20 N t n x1 x2 x3 τ → Q none (lg_X5_renew_20 N t n x1 x2 x3 τ) → tw_R K 20 [.ref t, .int x1, .int x2, .int x3] [] τ := by
  intro n
  induction n with
  | zero => intro x1 x2 x3 τ hp _; exact False.elim hp
  | succ n ih =>
    intro x1 x2 x3 τ hp hq
    simp only [lo_X5_renew_20] at hp
    simp only [lg_X5_renew_20] at hq
    refine rw_iload_n F dc_X5_renew_20 rfl ?_
    refine rw_bipush (v := 40) F dc_X5_renew_21 rfl ?_
    refine rw_icmp_ge (tgt := 39) F dc_X5_renew_23 rfl (fun c1 => ?_) (fun c1 => ?_)
    · rw [if_pos c1] at hp
      refine rw_vret F dc_X5_renew_39 rfl ?_
      exact (by simpa only [if_pos c1] using hq)
    · rw [if_neg c1] at hp
      refine rw_aload_n F dc_X5_renew_26 rfl ?_
      refine rw_getR F dc_X5_renew_27 fl_RX5_9 (by first | rfl | assumption | decide | exact r73_k (by assumption) | exact fb_k (by assumption) | exact sb_k (by assumption) | exact tb_k (by assumption) | exact sb_li (by assumption) | exact sb_s (by assumption) | exact tb_n (by assumption) | exact fb_k (sb_f (by assumption))) (by first | rfl | assumption | exact lk6 (by assumption) _ | exact lk2 (by assumption) _ | exact fb_l0 (by assumption) | exact fb_l1 (by assumption) | exact sb_l0 (by assumption) | exact sb_l1 (by assumption) | exact sb_l2 (by assumption) | exact sb_l3 (by assumption) | exact tb_l0 (by assumption) | exact tb_l1 (by assumption) | exact tb_l2 (by assumption) | exact lk2 (sb_li (by assumption)) _ | exact fb_l0 (sb_f (by assumption)) | exact fb_l1 (sb_f (by assumption))) ?_
      refine rw_iload_n F dc_X5_renew_30 rfl ?_
      refine rw_iconst (v := 0) F dc_X5_renew_31 rfl ?_
      obtain ⟨hs2, hp⟩ := hp
      refine rw_isC F dc_X5_renew_32 (by first | rfl | assumption | decide | exact r73_k (by assumption) | exact fb_k (by assumption) | exact sb_k (by assumption) | exact tb_k (by assumption) | exact sb_li (by assumption) | exact sb_s (by assumption) | exact tb_n (by assumption) | exact fb_k (sb_f (by assumption))) (by first | rfl | exact r73_n (by assumption) | exact sb_sn (by assumption) | exact tb_nn (by assumption)) hs2 ?_
      refine rw_inc (n1 := 1) F dc_X5_renew_33 rfl rfl (by decide) rfl ?_
      refine rw_goto (tgt := 20) F dc_X5_renew_36 rfl ?_
      exact ih _ _ _ _ hp (by simpa only [if_neg c1] using hq)
theorem cr_X5_renew {E : tw_E} {t : Nat} {N : Nat}  {x1 : Int32} {x2 : Int32} {τ : tw_T} (hp : p_X5_renew N t x1 x2 τ) (ht : tw_tb t := by first | assumption | exact (show _ ∈ ([182, 184, 186, 188] : List Nat) by decide)) : tw_Cv E 1 mX5_renew [.ref t, .int x1, .int x2] τ (g_X5_renew N t x1 x2 τ) := by
  unfold p_X5_renew at hp
  refine ct_of (by decide) (by simp [Value.category]) (Nat.le_of_ble_eq_true rfl) (fun K hE F => ?_)
  subst hE
  refine rw_aload_n F dc_X5_renew_0 rfl ?_
  refine rw_iload_n F dc_X5_renew_1 rfl ?_
  refine rw_put F dc_X5_renew_2 pf_RX5_15 (by first | rfl | assumption | decide | exact r73_k (by assumption) | exact fb_k (by assumption) | exact sb_k (by assumption) | exact tb_k (by assumption) | exact sb_li (by assumption) | exact sb_s (by assumption) | exact tb_n (by assumption) | exact fb_k (sb_f (by assumption))) (by first | rfl | assumption | exact lk6 (by assumption) _ | exact lk2 (by assumption) _ | exact fb_l0 (by assumption) | exact fb_l1 (by assumption) | exact sb_l0 (by assumption) | exact sb_l1 (by assumption) | exact sb_l2 (by assumption) | exact sb_l3 (by assumption) | exact tb_l0 (by assumption) | exact tb_l1 (by assumption) | exact tb_l2 (by assumption) | exact lk2 (sb_li (by assumption)) _ | exact fb_l0 (sb_f (by assumption)) | exact fb_l1 (sb_f (by assumption))) rfl rfl ?_
  refine rw_aload_n F dc_X5_renew_5 rfl ?_
  refine rw_iload_n F dc_X5_renew_6 rfl ?_
  refine rw_if_ne (tgt := 14) F dc_X5_renew_7 rfl (fun c1 => ?_) (fun c1 => ?_)
  · rw [if_neg c1] at hp
    refine rw_iload_n F dc_X5_renew_14 rfl ?_
    refine rw_put F dc_X5_renew_15 pf_RX5_19 (by first | rfl | assumption | decide | exact r73_k (by assumption) | exact fb_k (by assumption) | exact sb_k (by assumption) | exact tb_k (by assumption) | exact sb_li (by assumption) | exact sb_s (by assumption) | exact tb_n (by assumption) | exact fb_k (sb_f (by assumption))) (by first | rfl | assumption | exact lk6 (by assumption) _ | exact lk2 (by assumption) _ | exact fb_l0 (by assumption) | exact fb_l1 (by assumption) | exact sb_l0 (by assumption) | exact sb_l1 (by assumption) | exact sb_l2 (by assumption) | exact sb_l3 (by assumption) | exact tb_l0 (by assumption) | exact tb_l1 (by assumption) | exact tb_l2 (by assumption) | exact lk2 (sb_li (by assumption)) _ | exact fb_l0 (sb_f (by assumption)) | exact fb_l1 (sb_f (by assumption))) rfl rfl ?_
    refine rw_iconst (v := 0) F dc_X5_renew_18 rfl ?_
    refine rw_istore_n F dc_X5_renew_19 (by decide) rfl ?_
    exact lp_X5_renew_20 F ht N N _ _ _ _ hp ⟨rfl, by first | (simp only [g_X5_renew, if_neg c1]; done) | rfl | (simp only [g_X5_renew, if_neg c1]; rfl)⟩
  · rw [if_pos c1] at hp
    refine rw_iconst (v := 0) F dc_X5_renew_10 rfl ?_
    refine rw_goto (tgt := 15) F dc_X5_renew_11 rfl ?_
    refine rw_put F dc_X5_renew_15 pf_RX5_19 (by first | rfl | assumption | decide | exact r73_k (by assumption) | exact fb_k (by assumption) | exact sb_k (by assumption) | exact tb_k (by assumption) | exact sb_li (by assumption) | exact sb_s (by assumption) | exact tb_n (by assumption) | exact fb_k (sb_f (by assumption))) (by first | rfl | assumption | exact lk6 (by assumption) _ | exact lk2 (by assumption) _ | exact fb_l0 (by assumption) | exact fb_l1 (by assumption) | exact sb_l0 (by assumption) | exact sb_l1 (by assumption) | exact sb_l2 (by assumption) | exact sb_l3 (by assumption) | exact tb_l0 (by assumption) | exact tb_l1 (by assumption) | exact tb_l2 (by assumption) | exact lk2 (sb_li (by assumption)) _ | exact fb_l0 (sb_f (by assumption)) | exact fb_l1 (sb_f (by assumption))) rfl rfl ?_
    refine rw_iconst (v := 0) F dc_X5_renew_18 rfl ?_
    refine rw_istore_n F dc_X5_renew_19 (by decide) rfl ?_
    exact lp_X5_renew_20 F ht N N _ _ _ _ hp ⟨rfl, by first | (simp only [g_X5_renew, if_pos c1]; done) | rfl | (simp only [g_X5_renew, if_pos c1]; rfl)⟩
def g_X5_put (t : Nat) (x1 : Int32) (x2 : Int32) (τ : tw_T) : tw_T := if (τ t 1) = (8 : Int32) then (tw_sr τ (t + 1) (upd (τ (t + 1)) x1.toNatClampNeg x2.toInt8.toInt32)) else (if (τ t 1) = (16 : Int32) then (tw_sr τ (t + 1) (upd (τ (t + 1)) x1.toNatClampNeg x2.toInt16.toInt32)) else (tw_sr τ (t + 1) (upd (τ (t + 1)) x1.toNatClampNeg x2)))
def p_X5_put (t : Nat) (x1 : Int32) (x2 : Int32) (τ : tw_T) : Prop := if (τ t 1) = (8 : Int32) then (vp_in x1 40 ∧ True) else (if (τ t 1) = (16 : Int32) then (vp_in x1 40 ∧ True) else (vp_in x1 40 ∧ True))
theorem ct_X5_put {E : tw_E} {t : Nat}  {x1 : Int32} {x2 : Int32} {τ : tw_T} (hp : p_X5_put t x1 x2 τ) (ht : tw_tb t := by first | assumption | exact (show _ ∈ ([182, 184, 186, 188] : List Nat) by decide)) : tw_Cv E 1 mX5_put [.ref t, .int x1, .int x2] τ (g_X5_put t x1 x2 τ) := by
  unfold p_X5_put at hp
  refine ct_of (by decide) (by simp [Value.category]) (Nat.le_of_ble_eq_true rfl) (fun K hE F => ?_)
  subst hE
  refine rw_aload_n F dc_X5_put_0 rfl ?_
  refine rw_getI F dc_X5_put_1 fl_RX5_15 (by first | rfl | assumption | decide | exact r73_k (by assumption) | exact fb_k (by assumption) | exact sb_k (by assumption) | exact tb_k (by assumption) | exact sb_li (by assumption) | exact sb_s (by assumption) | exact tb_n (by assumption) | exact fb_k (sb_f (by assumption))) (by first | rfl | assumption | exact lk6 (by assumption) _ | exact lk2 (by assumption) _ | exact fb_l0 (by assumption) | exact fb_l1 (by assumption) | exact sb_l0 (by assumption) | exact sb_l1 (by assumption) | exact sb_l2 (by assumption) | exact sb_l3 (by assumption) | exact tb_l0 (by assumption) | exact tb_l1 (by assumption) | exact tb_l2 (by assumption) | exact lk2 (sb_li (by assumption)) _ | exact fb_l0 (sb_f (by assumption)) | exact fb_l1 (sb_f (by assumption))) ?_
  refine rw_bipush (v := 8) F dc_X5_put_4 rfl ?_
  refine rw_icmp_ne (tgt := 20) F dc_X5_put_6 rfl (fun c1 => ?_) (fun c1 => ?_)
  · rw [if_neg c1] at hp
    refine rw_aload_n F dc_X5_put_20 rfl ?_
    refine rw_getI F dc_X5_put_21 fl_RX5_15 (by first | rfl | assumption | decide | exact r73_k (by assumption) | exact fb_k (by assumption) | exact sb_k (by assumption) | exact tb_k (by assumption) | exact sb_li (by assumption) | exact sb_s (by assumption) | exact tb_n (by assumption) | exact fb_k (sb_f (by assumption))) (by first | rfl | assumption | exact lk6 (by assumption) _ | exact lk2 (by assumption) _ | exact fb_l0 (by assumption) | exact fb_l1 (by assumption) | exact sb_l0 (by assumption) | exact sb_l1 (by assumption) | exact sb_l2 (by assumption) | exact sb_l3 (by assumption) | exact tb_l0 (by assumption) | exact tb_l1 (by assumption) | exact tb_l2 (by assumption) | exact lk2 (sb_li (by assumption)) _ | exact fb_l0 (sb_f (by assumption)) | exact fb_l1 (sb_f (by assumption))) ?_
    refine rw_bipush (v := 16) F dc_X5_put_24 rfl ?_
    refine rw_icmp_ne (tgt := 40) F dc_X5_put_26 rfl (fun c2 => ?_) (fun c2 => ?_)
    · rw [if_neg c2] at hp
      refine rw_aload_n F dc_X5_put_40 rfl ?_
      refine rw_getR F dc_X5_put_41 fl_RX5_9 (by first | rfl | assumption | decide | exact r73_k (by assumption) | exact fb_k (by assumption) | exact sb_k (by assumption) | exact tb_k (by assumption) | exact sb_li (by assumption) | exact sb_s (by assumption) | exact tb_n (by assumption) | exact fb_k (sb_f (by assumption))) (by first | rfl | assumption | exact lk6 (by assumption) _ | exact lk2 (by assumption) _ | exact fb_l0 (by assumption) | exact fb_l1 (by assumption) | exact sb_l0 (by assumption) | exact sb_l1 (by assumption) | exact sb_l2 (by assumption) | exact sb_l3 (by assumption) | exact tb_l0 (by assumption) | exact tb_l1 (by assumption) | exact tb_l2 (by assumption) | exact lk2 (sb_li (by assumption)) _ | exact fb_l0 (sb_f (by assumption)) | exact fb_l1 (sb_f (by assumption))) ?_
      refine rw_iload_n F dc_X5_put_44 rfl ?_
      refine rw_iload_n F dc_X5_put_45 rfl ?_
      obtain ⟨hs3, hp⟩ := hp
      refine rw_isC F dc_X5_put_46 (by first | rfl | assumption | decide | exact r73_k (by assumption) | exact fb_k (by assumption) | exact sb_k (by assumption) | exact tb_k (by assumption) | exact sb_li (by assumption) | exact sb_s (by assumption) | exact tb_n (by assumption) | exact fb_k (sb_f (by assumption))) (by first | rfl | exact r73_n (by assumption) | exact sb_sn (by assumption) | exact tb_nn (by assumption)) hs3 ?_
      refine rw_vret F dc_X5_put_47 rfl ?_
      exact ⟨rfl, by first | (simp only [g_X5_put, if_neg c1, if_neg c2]; done) | rfl | (simp only [g_X5_put, if_neg c1, if_neg c2]; rfl)⟩
    · rw [if_pos c2] at hp
      refine rw_aload_n F dc_X5_put_29 rfl ?_
      refine rw_getR F dc_X5_put_30 fl_RX5_9 (by first | rfl | assumption | decide | exact r73_k (by assumption) | exact fb_k (by assumption) | exact sb_k (by assumption) | exact tb_k (by assumption) | exact sb_li (by assumption) | exact sb_s (by assumption) | exact tb_n (by assumption) | exact fb_k (sb_f (by assumption))) (by first | rfl | assumption | exact lk6 (by assumption) _ | exact lk2 (by assumption) _ | exact fb_l0 (by assumption) | exact fb_l1 (by assumption) | exact sb_l0 (by assumption) | exact sb_l1 (by assumption) | exact sb_l2 (by assumption) | exact sb_l3 (by assumption) | exact tb_l0 (by assumption) | exact tb_l1 (by assumption) | exact tb_l2 (by assumption) | exact lk2 (sb_li (by assumption)) _ | exact fb_l0 (sb_f (by assumption)) | exact fb_l1 (sb_f (by assumption))) ?_
      refine rw_iload_n F dc_X5_put_33 rfl ?_
      refine rw_iload_n F dc_X5_put_34 rfl ?_
      refine rw_i2s F dc_X5_put_35 ?_
      obtain ⟨hs4, hp⟩ := hp
      refine rw_isC F dc_X5_put_36 (by first | rfl | assumption | decide | exact r73_k (by assumption) | exact fb_k (by assumption) | exact sb_k (by assumption) | exact tb_k (by assumption) | exact sb_li (by assumption) | exact sb_s (by assumption) | exact tb_n (by assumption) | exact fb_k (sb_f (by assumption))) (by first | rfl | exact r73_n (by assumption) | exact sb_sn (by assumption) | exact tb_nn (by assumption)) hs4 ?_
      refine rw_goto (tgt := 47) F dc_X5_put_37 rfl ?_
      refine rw_vret F dc_X5_put_47 rfl ?_
      exact ⟨rfl, by first | (simp only [g_X5_put, if_neg c1, if_pos c2]; done) | rfl | (simp only [g_X5_put, if_neg c1, if_pos c2]; rfl)⟩
  · rw [if_pos c1] at hp
    refine rw_aload_n F dc_X5_put_9 rfl ?_
    refine rw_getR F dc_X5_put_10 fl_RX5_9 (by first | rfl | assumption | decide | exact r73_k (by assumption) | exact fb_k (by assumption) | exact sb_k (by assumption) | exact tb_k (by assumption) | exact sb_li (by assumption) | exact sb_s (by assumption) | exact tb_n (by assumption) | exact fb_k (sb_f (by assumption))) (by first | rfl | assumption | exact lk6 (by assumption) _ | exact lk2 (by assumption) _ | exact fb_l0 (by assumption) | exact fb_l1 (by assumption) | exact sb_l0 (by assumption) | exact sb_l1 (by assumption) | exact sb_l2 (by assumption) | exact sb_l3 (by assumption) | exact tb_l0 (by assumption) | exact tb_l1 (by assumption) | exact tb_l2 (by assumption) | exact lk2 (sb_li (by assumption)) _ | exact fb_l0 (sb_f (by assumption)) | exact fb_l1 (sb_f (by assumption))) ?_
    refine rw_iload_n F dc_X5_put_13 rfl ?_
    refine rw_iload_n F dc_X5_put_14 rfl ?_
    refine rw_i2b F dc_X5_put_15 ?_
    obtain ⟨hs5, hp⟩ := hp
    refine rw_isC F dc_X5_put_16 (by first | rfl | assumption | decide | exact r73_k (by assumption) | exact fb_k (by assumption) | exact sb_k (by assumption) | exact tb_k (by assumption) | exact sb_li (by assumption) | exact sb_s (by assumption) | exact tb_n (by assumption) | exact fb_k (sb_f (by assumption))) (by first | rfl | exact r73_n (by assumption) | exact sb_sn (by assumption) | exact tb_nn (by assumption)) hs5 ?_
    refine rw_goto (tgt := 47) F dc_X5_put_17 rfl ?_
    refine rw_vret F dc_X5_put_47 rfl ?_
    exact ⟨rfl, by first | (simp only [g_X5_put, if_pos c1]; done) | rfl | (simp only [g_X5_put, if_pos c1]; rfl)⟩
def f_X5_hasPart (t : Nat) (x1 : Int32) (x2 : Int32) (τ : tw_T) : Int32 := if x1 < (0 : Int32) then 0 else (if x2 < (0 : Int32) then 0 else (if ((τ t 2) - x2) < x1 then 0 else 1))
theorem ct_X5_hasPart {E : tw_E} {t : Nat}  {x1 : Int32} {x2 : Int32} {τ : tw_T}  (ht : tw_tb t := by first | assumption | exact (show _ ∈ ([182, 184, 186, 188] : List Nat) by decide)) : tw_Ci E 1 mX5_hasPart [.ref t, .int x1, .int x2] τ (f_X5_hasPart t x1 x2 τ) (τ) := by
  refine ct_of (by decide) (by simp [Value.category]) (Nat.le_of_ble_eq_true rfl) (fun K hE F => ?_)
  subst hE
  refine rw_iload_n F dc_X5_hasPart_0 rfl ?_
  refine rw_if_lt (tgt := 22) F dc_X5_hasPart_1 rfl (fun c1 => ?_) (fun c1 => ?_)
  · refine rw_iconst (v := 0) F dc_X5_hasPart_22 rfl ?_
    refine rw_iret F dc_X5_hasPart_23 rfl rfl ?_
    exact ⟨by first | (simp only [f_X5_hasPart, if_pos c1]; done) | rfl | (simp only [f_X5_hasPart, if_pos c1]; rfl), by first | (simp only [f_X5_hasPart, if_pos c1]; done) | rfl | (simp only [f_X5_hasPart, if_pos c1]; rfl)⟩
  · refine rw_iload_n F dc_X5_hasPart_4 rfl ?_
    refine rw_if_lt (tgt := 22) F dc_X5_hasPart_5 rfl (fun c2 => ?_) (fun c2 => ?_)
    · refine rw_iconst (v := 0) F dc_X5_hasPart_22 rfl ?_
      refine rw_iret F dc_X5_hasPart_23 rfl rfl ?_
      exact ⟨by first | (simp only [f_X5_hasPart, if_neg c1, if_pos c2]; done) | rfl | (simp only [f_X5_hasPart, if_neg c1, if_pos c2]; rfl), by first | (simp only [f_X5_hasPart, if_neg c1, if_pos c2]; done) | rfl | (simp only [f_X5_hasPart, if_neg c1, if_pos c2]; rfl)⟩
    · refine rw_iload_n F dc_X5_hasPart_8 rfl ?_
      refine rw_aload_n F dc_X5_hasPart_9 rfl ?_
      refine rw_getI F dc_X5_hasPart_10 fl_RX5_19 (by first | rfl | assumption | decide | exact r73_k (by assumption) | exact fb_k (by assumption) | exact sb_k (by assumption) | exact tb_k (by assumption) | exact sb_li (by assumption) | exact sb_s (by assumption) | exact tb_n (by assumption) | exact fb_k (sb_f (by assumption))) (by first | rfl | assumption | exact lk6 (by assumption) _ | exact lk2 (by assumption) _ | exact fb_l0 (by assumption) | exact fb_l1 (by assumption) | exact sb_l0 (by assumption) | exact sb_l1 (by assumption) | exact sb_l2 (by assumption) | exact sb_l3 (by assumption) | exact tb_l0 (by assumption) | exact tb_l1 (by assumption) | exact tb_l2 (by assumption) | exact lk2 (sb_li (by assumption)) _ | exact fb_l0 (sb_f (by assumption)) | exact fb_l1 (sb_f (by assumption))) ?_
      refine rw_iload_n F dc_X5_hasPart_13 rfl ?_
      refine rw_isub F dc_X5_hasPart_14 ?_
      refine rw_icmp_gt (tgt := 22) F dc_X5_hasPart_15 rfl (fun c3 => ?_) (fun c3 => ?_)
      · refine rw_iconst (v := 0) F dc_X5_hasPart_22 rfl ?_
        refine rw_iret F dc_X5_hasPart_23 rfl rfl ?_
        exact ⟨by first | (simp only [f_X5_hasPart, if_neg c1, if_neg c2, if_pos c3]; done) | rfl | (simp only [f_X5_hasPart, if_neg c1, if_neg c2, if_pos c3]; rfl), by first | (simp only [f_X5_hasPart, if_neg c1, if_neg c2, if_pos c3]; done) | rfl | (simp only [f_X5_hasPart, if_neg c1, if_neg c2, if_pos c3]; rfl)⟩
      · refine rw_iconst (v := 1) F dc_X5_hasPart_18 rfl ?_
        refine rw_goto (tgt := 23) F dc_X5_hasPart_19 rfl ?_
        refine rw_iret F dc_X5_hasPart_23 rfl rfl ?_
        exact ⟨by first | (simp only [f_X5_hasPart, if_neg c1, if_neg c2, if_neg c3]; done) | rfl | (simp only [f_X5_hasPart, if_neg c1, if_neg c2, if_neg c3]; rfl), by first | (simp only [f_X5_hasPart, if_neg c1, if_neg c2, if_neg c3]; done) | rfl | (simp only [f_X5_hasPart, if_neg c1, if_neg c2, if_neg c3]; rfl)⟩
def f_X0_canBeMet   (τ : tw_T) : Int32 := if (τ 48 2) = (0 : Int32) then (if ((τ 48 0) &&& (τ 48 1)) = (0 : Int32) then 1 else 0) else 0
theorem ct_X0_canBeMet {E : tw_E}    {τ : tw_T}   : tw_Ci E 1 mX0_canBeMet [.ref 48] τ (f_X0_canBeMet τ) (τ) := by
  refine ct_of (by decide) (by simp [Value.category]) (Nat.le_of_ble_eq_true rfl) (fun K hE F => ?_)
  subst hE
  refine rw_aload_n F dc_X0_canBeMet_0 rfl ?_
  refine rw_getI F dc_X0_canBeMet_1 fl_RX0_18 (by first | rfl | assumption | decide | exact r73_k (by assumption) | exact fb_k (by assumption) | exact sb_k (by assumption) | exact tb_k (by assumption) | exact sb_li (by assumption) | exact sb_s (by assumption) | exact tb_n (by assumption) | exact fb_k (sb_f (by assumption))) (by first | rfl | assumption | exact lk6 (by assumption) _ | exact lk2 (by assumption) _ | exact fb_l0 (by assumption) | exact fb_l1 (by assumption) | exact sb_l0 (by assumption) | exact sb_l1 (by assumption) | exact sb_l2 (by assumption) | exact sb_l3 (by assumption) | exact tb_l0 (by assumption) | exact tb_l1 (by assumption) | exact tb_l2 (by assumption) | exact lk2 (sb_li (by assumption)) _ | exact fb_l0 (sb_f (by assumption)) | exact fb_l1 (sb_f (by assumption))) ?_
  refine rw_if_ne (tgt := 23) F dc_X0_canBeMet_4 rfl (fun c1 => ?_) (fun c1 => ?_)
  · refine rw_iconst (v := 0) F dc_X0_canBeMet_23 rfl ?_
    refine rw_iret F dc_X0_canBeMet_24 rfl rfl ?_
    exact ⟨by first | (simp only [f_X0_canBeMet, if_neg c1]; done) | rfl | (simp only [f_X0_canBeMet, if_neg c1]; rfl), by first | (simp only [f_X0_canBeMet, if_neg c1]; done) | rfl | (simp only [f_X0_canBeMet, if_neg c1]; rfl)⟩
  · refine rw_aload_n F dc_X0_canBeMet_7 rfl ?_
    refine rw_getI F dc_X0_canBeMet_8 fl_RX0_9 (by first | rfl | assumption | decide | exact r73_k (by assumption) | exact fb_k (by assumption) | exact sb_k (by assumption) | exact tb_k (by assumption) | exact sb_li (by assumption) | exact sb_s (by assumption) | exact tb_n (by assumption) | exact fb_k (sb_f (by assumption))) (by first | rfl | assumption | exact lk6 (by assumption) _ | exact lk2 (by assumption) _ | exact fb_l0 (by assumption) | exact fb_l1 (by assumption) | exact sb_l0 (by assumption) | exact sb_l1 (by assumption) | exact sb_l2 (by assumption) | exact sb_l3 (by assumption) | exact tb_l0 (by assumption) | exact tb_l1 (by assumption) | exact tb_l2 (by assumption) | exact lk2 (sb_li (by assumption)) _ | exact fb_l0 (sb_f (by assumption)) | exact fb_l1 (sb_f (by assumption))) ?_
    refine rw_aload_n F dc_X0_canBeMet_11 rfl ?_
    refine rw_getI F dc_X0_canBeMet_12 fl_RX0_15 (by first | rfl | assumption | decide | exact r73_k (by assumption) | exact fb_k (by assumption) | exact sb_k (by assumption) | exact tb_k (by assumption) | exact sb_li (by assumption) | exact sb_s (by assumption) | exact tb_n (by assumption) | exact fb_k (sb_f (by assumption))) (by first | rfl | assumption | exact lk6 (by assumption) _ | exact lk2 (by assumption) _ | exact fb_l0 (by assumption) | exact fb_l1 (by assumption) | exact sb_l0 (by assumption) | exact sb_l1 (by assumption) | exact sb_l2 (by assumption) | exact sb_l3 (by assumption) | exact tb_l0 (by assumption) | exact tb_l1 (by assumption) | exact tb_l2 (by assumption) | exact lk2 (sb_li (by assumption)) _ | exact fb_l0 (sb_f (by assumption)) | exact fb_l1 (sb_f (by assumption))) ?_
    refine rw_iand F dc_X0_canBeMet_15 ?_
    refine rw_if_ne (tgt := 23) F dc_X0_canBeMet_16 rfl (fun c2 => ?_) (fun c2 => ?_)
    · refine rw_iconst (v := 0) F dc_X0_canBeMet_23 rfl ?_
      refine rw_iret F dc_X0_canBeMet_24 rfl rfl ?_
      exact ⟨by first | (simp only [f_X0_canBeMet, if_pos c1, if_neg c2]; done) | rfl | (simp only [f_X0_canBeMet, if_pos c1, if_neg c2]; rfl), by first | (simp only [f_X0_canBeMet, if_pos c1, if_neg c2]; done) | rfl | (simp only [f_X0_canBeMet, if_pos c1, if_neg c2]; rfl)⟩
    · refine rw_iconst (v := 1) F dc_X0_canBeMet_19 rfl ?_
      refine rw_goto (tgt := 24) F dc_X0_canBeMet_20 rfl ?_
      refine rw_iret F dc_X0_canBeMet_24 rfl rfl ?_
      exact ⟨by first | (simp only [f_X0_canBeMet, if_pos c1, if_pos c2]; done) | rfl | (simp only [f_X0_canBeMet, if_pos c1, if_pos c2]; rfl), by first | (simp only [f_X0_canBeMet, if_pos c1, if_pos c2]; done) | rfl | (simp only [f_X0_canBeMet, if_pos c1, if_pos c2]; rfl)⟩
def f_X0_freeBits   (τ : tw_T) : Int32 := 12 - (f_J6_bitCount_0f7a4 ((τ 48 0) ||| (τ 48 1)) τ)
theorem ct_X0_freeBits {E : tw_E}    {τ : tw_T}   : tw_Ci E 2 mX0_freeBits [.ref 48] τ (f_X0_freeBits τ) (τ) := by
  refine ct_of (by decide) (by simp [Value.category]) (Nat.le_of_ble_eq_true rfl) (fun K hE F => ?_)
  subst hE
  refine rw_bipush (v := 12) F dc_X0_freeBits_0 rfl ?_
  refine rw_aload_n F dc_X0_freeBits_2 rfl ?_
  refine rw_getI F dc_X0_freeBits_3 fl_RX0_9 (by first | rfl | assumption | decide | exact r73_k (by assumption) | exact fb_k (by assumption) | exact sb_k (by assumption) | exact tb_k (by assumption) | exact sb_li (by assumption) | exact sb_s (by assumption) | exact tb_n (by assumption) | exact fb_k (sb_f (by assumption))) (by first | rfl | assumption | exact lk6 (by assumption) _ | exact lk2 (by assumption) _ | exact fb_l0 (by assumption) | exact fb_l1 (by assumption) | exact sb_l0 (by assumption) | exact sb_l1 (by assumption) | exact sb_l2 (by assumption) | exact sb_l3 (by assumption) | exact tb_l0 (by assumption) | exact tb_l1 (by assumption) | exact tb_l2 (by assumption) | exact lk2 (sb_li (by assumption)) _ | exact fb_l0 (sb_f (by assumption)) | exact fb_l1 (sb_f (by assumption))) ?_
  refine rw_aload_n F dc_X0_freeBits_6 rfl ?_
  refine rw_getI F dc_X0_freeBits_7 fl_RX0_15 (by first | rfl | assumption | decide | exact r73_k (by assumption) | exact fb_k (by assumption) | exact sb_k (by assumption) | exact tb_k (by assumption) | exact sb_li (by assumption) | exact sb_s (by assumption) | exact tb_n (by assumption) | exact fb_k (sb_f (by assumption))) (by first | rfl | assumption | exact lk6 (by assumption) _ | exact lk2 (by assumption) _ | exact fb_l0 (by assumption) | exact fb_l1 (by assumption) | exact sb_l0 (by assumption) | exact sb_l1 (by assumption) | exact sb_l2 (by assumption) | exact sb_l3 (by assumption) | exact tb_l0 (by assumption) | exact tb_l1 (by assumption) | exact tb_l2 (by assumption) | exact lk2 (sb_li (by assumption)) _ | exact fb_l0 (sb_f (by assumption)) | exact fb_l1 (sb_f (by assumption))) ?_
  refine rw_ior F dc_X0_freeBits_10 ?_
  refine rw_cSi F [_] dc_X0_freeBits_11 ms_J6_bitCount_0f7a4 ml_RX0_51 (by decide)  rfl rfl (Nat.le_of_ble_eq_true rfl) ct_J6_bitCount_0f7a4 ?_
  refine rw_isub F dc_X0_freeBits_14 ?_
  refine rw_iret F dc_X0_freeBits_15 rfl rfl ?_
  exact ⟨by first | (simp only [f_X0_freeBits]; done) | rfl | (simp only [f_X0_freeBits]; rfl), by first | (simp only [f_X0_freeBits]; done) | rfl | (simp only [f_X0_freeBits]; rfl)⟩
def g_X0_hearOne (o : Nat) (x1 : Int32) (x2 : Int32) (τ : tw_T) : tw_T := if (f_X8_within x1 0 1 τ) = (0 : Int32) then (tw_sr τ 48 (upd (τ 48) 2 1)) else (if (0 : Int32) ≤ (f_X2_ticksToSource o x2 τ) then (if x1 = (1 : Int32) then (tw_sr τ 48 (upd (τ 48) 0 ((τ 48 0) ||| (f_X2_bitAhead o (f_X2_ticksToSource o x2 τ) τ)))) else (tw_sr τ 48 (upd (τ 48) 1 ((τ 48 1) ||| (f_X2_bitAhead o (f_X2_ticksToSource o x2 τ) τ))))) else (if x1 = (f_X2_secondAhead o x2 τ) then (tw_sr τ 48 (upd (τ 48) 2 ((τ 48 2) ||| 0))) else (tw_sr τ 48 (upd (τ 48) 2 ((τ 48 2) ||| 1)))))
def p_X0_hearOne (o : Nat) (x1 : Int32) (x2 : Int32) (τ : tw_T) : Prop := if (f_X8_within x1 0 1 τ) = (0 : Int32) then True else (if (0 : Int32) ≤ (f_X2_ticksToSource o x2 τ) then True else (if x1 = (f_X2_secondAhead o x2 τ) then ((narrow .boolean (.int ((τ 48 2) ||| 0)) = .int ((τ 48 2) ||| 0) ∧ fits .boolean (.int ((τ 48 2) ||| 0)) = true) ∧ True) else ((narrow .boolean (.int ((τ 48 2) ||| 1)) = .int ((τ 48 2) ||| 1) ∧ fits .boolean (.int ((τ 48 2) ||| 1)) = true) ∧ True)))
theorem ct_X0_hearOne {E : tw_E} {o : Nat}  {x1 : Int32} {x2 : Int32} {τ : tw_T} (hp : p_X0_hearOne o x1 x2 τ) (ho : tw_isK o 2 = true := by first | rfl | assumption | exact sb_li (by assumption)) : tw_Cv E 5 mX0_hearOne [.ref 48, .int x1, .int x2, .ref o] τ (g_X0_hearOne o x1 x2 τ) := by
  unfold p_X0_hearOne at hp
  refine ct_of (by decide) (by simp [Value.category]) (Nat.le_of_ble_eq_true rfl) (fun K hE F => ?_)
  subst hE
  refine rw_aload_n F dc_X0_hearOne_0 rfl ?_
  refine rw_iload_n F dc_X0_hearOne_1 rfl ?_
  refine rw_cVi F [_] dc_X0_hearOne_2 mv_X2_ticksToSource ml_RX0_35 (by decide) (rc_2 (by first | rfl | assumption | decide | exact r73_k (by assumption) | exact fb_k (by assumption) | exact sb_k (by assumption) | exact tb_k (by assumption) | exact sb_li (by assumption) | exact sb_s (by assumption) | exact tb_n (by assumption) | exact fb_k (sb_f (by assumption)))) rfl rfl (Nat.le_of_ble_eq_true rfl) ct_X2_ticksToSource ?_
  refine rw_istore F dc_X0_hearOne_5 (by decide) rfl ?_
  refine rw_iload_n F dc_X0_hearOne_7 rfl ?_
  refine rw_iconst (v := 0) F dc_X0_hearOne_8 rfl ?_
  refine rw_iconst (v := 1) F dc_X0_hearOne_9 rfl ?_
  refine rw_cSNi F [_, _, _] dc_X0_hearOne_10 ms_X8_within nl_RX0_41 (by decide)  rfl rfl (Nat.le_of_ble_eq_true rfl) ct_X8_within ?_
  refine rw_if_ne (tgt := 24) F dc_X0_hearOne_13 rfl (fun c1 => ?_) (fun c1 => ?_)
  · rw [if_neg c1] at hp
    refine rw_iload F dc_X0_hearOne_24 rfl ?_
    refine rw_if_ge (tgt := 55) F dc_X0_hearOne_26 rfl (fun c2 => ?_) (fun c2 => ?_)
    · rw [if_pos c2] at hp
      refine rw_iload_n F dc_X0_hearOne_55 rfl ?_
      refine rw_iconst (v := 1) F dc_X0_hearOne_56 rfl ?_
      refine rw_icmp_ne (tgt := 78) F dc_X0_hearOne_57 rfl (fun c3 => ?_) (fun c3 => ?_)
      · refine rw_aload_n F dc_X0_hearOne_78 rfl ?_
        refine rw_dup F dc_X0_hearOne_79 rfl ?_
        refine rw_getI F dc_X0_hearOne_80 fl_RX0_15 (by first | rfl | assumption | decide | exact r73_k (by assumption) | exact fb_k (by assumption) | exact sb_k (by assumption) | exact tb_k (by assumption) | exact sb_li (by assumption) | exact sb_s (by assumption) | exact tb_n (by assumption) | exact fb_k (sb_f (by assumption))) (by first | rfl | assumption | exact lk6 (by assumption) _ | exact lk2 (by assumption) _ | exact fb_l0 (by assumption) | exact fb_l1 (by assumption) | exact sb_l0 (by assumption) | exact sb_l1 (by assumption) | exact sb_l2 (by assumption) | exact sb_l3 (by assumption) | exact tb_l0 (by assumption) | exact tb_l1 (by assumption) | exact tb_l2 (by assumption) | exact lk2 (sb_li (by assumption)) _ | exact fb_l0 (sb_f (by assumption)) | exact fb_l1 (sb_f (by assumption))) ?_
        refine rw_aload_n F dc_X0_hearOne_83 rfl ?_
        refine rw_iload F dc_X0_hearOne_84 rfl ?_
        refine rw_cVi F [_] dc_X0_hearOne_86 mv_X2_bitAhead ml_RX0_48 (by decide) (rc_2 (by first | rfl | assumption | decide | exact r73_k (by assumption) | exact fb_k (by assumption) | exact sb_k (by assumption) | exact tb_k (by assumption) | exact sb_li (by assumption) | exact sb_s (by assumption) | exact tb_n (by assumption) | exact fb_k (sb_f (by assumption)))) rfl rfl (Nat.le_of_ble_eq_true rfl) ct_X2_bitAhead ?_
        refine rw_ior F dc_X0_hearOne_89 ?_
        refine rw_put F dc_X0_hearOne_90 pf_RX0_15 (by first | rfl | assumption | decide | exact r73_k (by assumption) | exact fb_k (by assumption) | exact sb_k (by assumption) | exact tb_k (by assumption) | exact sb_li (by assumption) | exact sb_s (by assumption) | exact tb_n (by assumption) | exact fb_k (sb_f (by assumption))) (by first | rfl | assumption | exact lk6 (by assumption) _ | exact lk2 (by assumption) _ | exact fb_l0 (by assumption) | exact fb_l1 (by assumption) | exact sb_l0 (by assumption) | exact sb_l1 (by assumption) | exact sb_l2 (by assumption) | exact sb_l3 (by assumption) | exact tb_l0 (by assumption) | exact tb_l1 (by assumption) | exact tb_l2 (by assumption) | exact lk2 (sb_li (by assumption)) _ | exact fb_l0 (sb_f (by assumption)) | exact fb_l1 (sb_f (by assumption))) rfl rfl ?_
        refine rw_vret F dc_X0_hearOne_93 rfl ?_
        exact ⟨rfl, by first | (simp only [g_X0_hearOne, if_neg c1, if_pos c2, if_neg c3]; done) | rfl | (simp only [g_X0_hearOne, if_neg c1, if_pos c2, if_neg c3]; rfl)⟩
      · refine rw_aload_n F dc_X0_hearOne_60 rfl ?_
        refine rw_dup F dc_X0_hearOne_61 rfl ?_
        refine rw_getI F dc_X0_hearOne_62 fl_RX0_9 (by first | rfl | assumption | decide | exact r73_k (by assumption) | exact fb_k (by assumption) | exact sb_k (by assumption) | exact tb_k (by assumption) | exact sb_li (by assumption) | exact sb_s (by assumption) | exact tb_n (by assumption) | exact fb_k (sb_f (by assumption))) (by first | rfl | assumption | exact lk6 (by assumption) _ | exact lk2 (by assumption) _ | exact fb_l0 (by assumption) | exact fb_l1 (by assumption) | exact sb_l0 (by assumption) | exact sb_l1 (by assumption) | exact sb_l2 (by assumption) | exact sb_l3 (by assumption) | exact tb_l0 (by assumption) | exact tb_l1 (by assumption) | exact tb_l2 (by assumption) | exact lk2 (sb_li (by assumption)) _ | exact fb_l0 (sb_f (by assumption)) | exact fb_l1 (sb_f (by assumption))) ?_
        refine rw_aload_n F dc_X0_hearOne_65 rfl ?_
        refine rw_iload F dc_X0_hearOne_66 rfl ?_
        refine rw_cVi F [_] dc_X0_hearOne_68 mv_X2_bitAhead ml_RX0_48 (by decide) (rc_2 (by first | rfl | assumption | decide | exact r73_k (by assumption) | exact fb_k (by assumption) | exact sb_k (by assumption) | exact tb_k (by assumption) | exact sb_li (by assumption) | exact sb_s (by assumption) | exact tb_n (by assumption) | exact fb_k (sb_f (by assumption)))) rfl rfl (Nat.le_of_ble_eq_true rfl) ct_X2_bitAhead ?_
        refine rw_ior F dc_X0_hearOne_71 ?_
        refine rw_put F dc_X0_hearOne_72 pf_RX0_9 (by first | rfl | assumption | decide | exact r73_k (by assumption) | exact fb_k (by assumption) | exact sb_k (by assumption) | exact tb_k (by assumption) | exact sb_li (by assumption) | exact sb_s (by assumption) | exact tb_n (by assumption) | exact fb_k (sb_f (by assumption))) (by first | rfl | assumption | exact lk6 (by assumption) _ | exact lk2 (by assumption) _ | exact fb_l0 (by assumption) | exact fb_l1 (by assumption) | exact sb_l0 (by assumption) | exact sb_l1 (by assumption) | exact sb_l2 (by assumption) | exact sb_l3 (by assumption) | exact tb_l0 (by assumption) | exact tb_l1 (by assumption) | exact tb_l2 (by assumption) | exact lk2 (sb_li (by assumption)) _ | exact fb_l0 (sb_f (by assumption)) | exact fb_l1 (sb_f (by assumption))) rfl rfl ?_
        refine rw_goto (tgt := 93) F dc_X0_hearOne_75 rfl ?_
        refine rw_vret F dc_X0_hearOne_93 rfl ?_
        exact ⟨rfl, by first | (simp only [g_X0_hearOne, if_neg c1, if_pos c2, if_pos c3]; done) | rfl | (simp only [g_X0_hearOne, if_neg c1, if_pos c2, if_pos c3]; rfl)⟩
    · rw [if_neg c2] at hp
      refine rw_aload_n F dc_X0_hearOne_29 rfl ?_
      refine rw_dup F dc_X0_hearOne_30 rfl ?_
      refine rw_getI F dc_X0_hearOne_31 fl_RX0_18 (by first | rfl | assumption | decide | exact r73_k (by assumption) | exact fb_k (by assumption) | exact sb_k (by assumption) | exact tb_k (by assumption) | exact sb_li (by assumption) | exact sb_s (by assumption) | exact tb_n (by assumption) | exact fb_k (sb_f (by assumption))) (by first | rfl | assumption | exact lk6 (by assumption) _ | exact lk2 (by assumption) _ | exact fb_l0 (by assumption) | exact fb_l1 (by assumption) | exact sb_l0 (by assumption) | exact sb_l1 (by assumption) | exact sb_l2 (by assumption) | exact sb_l3 (by assumption) | exact tb_l0 (by assumption) | exact tb_l1 (by assumption) | exact tb_l2 (by assumption) | exact lk2 (sb_li (by assumption)) _ | exact fb_l0 (sb_f (by assumption)) | exact fb_l1 (sb_f (by assumption))) ?_
      refine rw_iload_n F dc_X0_hearOne_34 rfl ?_
      refine rw_aload_n F dc_X0_hearOne_35 rfl ?_
      refine rw_iload_n F dc_X0_hearOne_36 rfl ?_
      refine rw_cVi F [_] dc_X0_hearOne_37 mv_X2_secondAhead ml_RX0_45 (by decide) (rc_2 (by first | rfl | assumption | decide | exact r73_k (by assumption) | exact fb_k (by assumption) | exact sb_k (by assumption) | exact tb_k (by assumption) | exact sb_li (by assumption) | exact sb_s (by assumption) | exact tb_n (by assumption) | exact fb_k (sb_f (by assumption)))) rfl rfl (Nat.le_of_ble_eq_true rfl) ct_X2_secondAhead ?_
      refine rw_icmp_eq (tgt := 47) F dc_X0_hearOne_40 rfl (fun c4 => ?_) (fun c4 => ?_)
      · rw [if_pos c4] at hp
        refine rw_iconst (v := 0) F dc_X0_hearOne_47 rfl ?_
        refine rw_ior F dc_X0_hearOne_48 ?_
        obtain ⟨hs5, hp⟩ := hp
        refine rw_put F dc_X0_hearOne_49 pf_RX0_18 (by first | rfl | assumption | decide | exact r73_k (by assumption) | exact fb_k (by assumption) | exact sb_k (by assumption) | exact tb_k (by assumption) | exact sb_li (by assumption) | exact sb_s (by assumption) | exact tb_n (by assumption) | exact fb_k (sb_f (by assumption))) (by first | rfl | assumption | exact lk6 (by assumption) _ | exact lk2 (by assumption) _ | exact fb_l0 (by assumption) | exact fb_l1 (by assumption) | exact sb_l0 (by assumption) | exact sb_l1 (by assumption) | exact sb_l2 (by assumption) | exact sb_l3 (by assumption) | exact tb_l0 (by assumption) | exact tb_l1 (by assumption) | exact tb_l2 (by assumption) | exact lk2 (sb_li (by assumption)) _ | exact fb_l0 (sb_f (by assumption)) | exact fb_l1 (sb_f (by assumption))) hs5.1 hs5.2 ?_
        refine rw_goto (tgt := 93) F dc_X0_hearOne_52 rfl ?_
        refine rw_vret F dc_X0_hearOne_93 rfl ?_
        exact ⟨rfl, by first | (simp only [g_X0_hearOne, if_neg c1, if_neg c2, if_pos c4]; done) | rfl | (simp only [g_X0_hearOne, if_neg c1, if_neg c2, if_pos c4]; rfl)⟩
      · rw [if_neg c4] at hp
        refine rw_iconst (v := 1) F dc_X0_hearOne_43 rfl ?_
        refine rw_goto (tgt := 48) F dc_X0_hearOne_44 rfl ?_
        refine rw_ior F dc_X0_hearOne_48 ?_
        obtain ⟨hs6, hp⟩ := hp
        refine rw_put F dc_X0_hearOne_49 pf_RX0_18 (by first | rfl | assumption | decide | exact r73_k (by assumption) | exact fb_k (by assumption) | exact sb_k (by assumption) | exact tb_k (by assumption) | exact sb_li (by assumption) | exact sb_s (by assumption) | exact tb_n (by assumption) | exact fb_k (sb_f (by assumption))) (by first | rfl | assumption | exact lk6 (by assumption) _ | exact lk2 (by assumption) _ | exact fb_l0 (by assumption) | exact fb_l1 (by assumption) | exact sb_l0 (by assumption) | exact sb_l1 (by assumption) | exact sb_l2 (by assumption) | exact sb_l3 (by assumption) | exact tb_l0 (by assumption) | exact tb_l1 (by assumption) | exact tb_l2 (by assumption) | exact lk2 (sb_li (by assumption)) _ | exact fb_l0 (sb_f (by assumption)) | exact fb_l1 (sb_f (by assumption))) hs6.1 hs6.2 ?_
        refine rw_goto (tgt := 93) F dc_X0_hearOne_52 rfl ?_
        refine rw_vret F dc_X0_hearOne_93 rfl ?_
        exact ⟨rfl, by first | (simp only [g_X0_hearOne, if_neg c1, if_neg c2, if_neg c4]; done) | rfl | (simp only [g_X0_hearOne, if_neg c1, if_neg c2, if_neg c4]; rfl)⟩
  · rw [if_pos c1] at hp
    refine rw_aload_n F dc_X0_hearOne_16 rfl ?_
    refine rw_iconst (v := 1) F dc_X0_hearOne_17 rfl ?_
    refine rw_put F dc_X0_hearOne_18 pf_RX0_18 (by first | rfl | assumption | decide | exact r73_k (by assumption) | exact fb_k (by assumption) | exact sb_k (by assumption) | exact tb_k (by assumption) | exact sb_li (by assumption) | exact sb_s (by assumption) | exact tb_n (by assumption) | exact fb_k (sb_f (by assumption))) (by first | rfl | assumption | exact lk6 (by assumption) _ | exact lk2 (by assumption) _ | exact fb_l0 (by assumption) | exact fb_l1 (by assumption) | exact sb_l0 (by assumption) | exact sb_l1 (by assumption) | exact sb_l2 (by assumption) | exact sb_l3 (by assumption) | exact tb_l0 (by assumption) | exact tb_l1 (by assumption) | exact tb_l2 (by assumption) | exact lk2 (sb_li (by assumption)) _ | exact fb_l0 (sb_f (by assumption)) | exact fb_l1 (sb_f (by assumption))) rfl rfl ?_
    refine rw_goto (tgt := 93) F dc_X0_hearOne_21 rfl ?_
    refine rw_vret F dc_X0_hearOne_93 rfl ?_
    exact ⟨rfl, by first | (simp only [g_X0_hearOne, if_pos c1]; done) | rfl | (simp only [g_X0_hearOne, if_pos c1]; rfl)⟩
def lg_X0_hear_17 (N : Nat) (t : Nat) (o : Nat) : Nat → Int32 → tw_T → tw_T
  | 0, _, τ => τ
  | n + 1, x3, τ => if (τ t 2) ≤ x3 then τ else (if (τ (t + 1) x3.toNatClampNeg) = ((-1)) then (lg_X0_hear_17 N t o n (x3 + 1) τ) else (lg_X0_hear_17 N t o n (x3 + 1) (g_X0_hearOne o (τ (t + 1) x3.toNatClampNeg) x3 τ)))
def lo_X0_hear_17 (N : Nat) (t : Nat) (o : Nat) : Nat → Int32 → tw_T → Prop
  | 0, _, _ => False
  | n + 1, x3, τ => if (τ t 2) ≤ x3 then True else (vp_in x3 40 ∧ (if (τ (t + 1) x3.toNatClampNeg) = ((-1)) then (lo_X0_hear_17 N t o n (x3 + 1) τ) else (vp_in x3 40 ∧ (p_X0_hearOne o (τ (t + 1) x3.toNatClampNeg) x3 τ ∧ (lo_X0_hear_17 N t o n (x3 + 1) (g_X0_hearOne o (τ (t + 1) x3.toNatClampNeg) x3 τ))))))
def g_X0_hear (N : Nat) (t : Nat) (o : Nat)  (τ : tw_T) : tw_T := lg_X0_hear_17 N t o N 0 (tw_sr (tw_sr (tw_sr τ 48 (upd (τ 48) 0 0)) 48 (upd ((tw_sr τ 48 (upd (τ 48) 0 0)) 48) 1 0)) 48 (upd ((tw_sr (tw_sr τ 48 (upd (τ 48) 0 0)) 48 (upd ((tw_sr τ 48 (upd (τ 48) 0 0)) 48) 1 0)) 48) 2 0))
def p_X0_hear (N : Nat) (t : Nat) (o : Nat)  (τ : tw_T) : Prop := lo_X0_hear_17 N t o N 0 (tw_sr (tw_sr (tw_sr τ 48 (upd (τ 48) 0 0)) 48 (upd ((tw_sr τ 48 (upd (τ 48) 0 0)) 48) 1 0)) 48 (upd ((tw_sr (tw_sr τ 48 (upd (τ 48) 0 0)) 48 (upd ((tw_sr τ 48 (upd (τ 48) 0 0)) 48) 1 0)) 48) 2 0))
theorem lp_X0_hear_17 {K : tw_K} {Q : Option Value → tw_T → Prop} (F : tw_F K mX0_hear 6 Q) {t : Nat} {o : Nat} (ht : tw_tb t) (ho : tw_isK o 2 = true) (N : Nat)  : ∀ (n : Nat) (x3 : Int32) (τ : tw_T), lo_X0_hear_17 N t o n x3 τ → Q none (lg_X0_hear_17 N t o n x3 τ) → tw_R K 17 [.ref 48, .ref t, .ref o, .int x3] [] τ := by
  intro n
  induction n with
  | zero => intro x3 τ hp _; exact False.elim hp
  | succ n ih =>
    intro x3 τ hp hq
    simp only [lo_X0_hear_17] at hp
    simp only [lg_X0_hear_17] at hq
    refine rw_iload_n F dc_X0_hear_17 rfl ?_
    refine rw_aload_n F dc_X0_hear_18 rfl ?_
    refine rw_getI F dc_X0_hear_19 fl_RX0_22 (by first | rfl | assumption | decide | exact r73_k (by assumption) | exact fb_k (by assumption) | exact sb_k (by assumption) | exact tb_k (by assumption) | exact sb_li (by assumption) | exact sb_s (by assumption) | exact tb_n (by assumption) | exact fb_k (sb_f (by assumption))) (by first | rfl | assumption | exact lk6 (by assumption) _ | exact lk2 (by assumption) _ | exact fb_l0 (by assumption) | exact fb_l1 (by assumption) | exact sb_l0 (by assumption) | exact sb_l1 (by assumption) | exact sb_l2 (by assumption) | exact sb_l3 (by assumption) | exact tb_l0 (by assumption) | exact tb_l1 (by assumption) | exact tb_l2 (by assumption) | exact lk2 (sb_li (by assumption)) _ | exact fb_l0 (sb_f (by assumption)) | exact fb_l1 (sb_f (by assumption))) ?_
    refine rw_icmp_ge (tgt := 53) F dc_X0_hear_22 rfl (fun c1 => ?_) (fun c1 => ?_)
    · rw [if_pos c1] at hp
      refine rw_vret F dc_X0_hear_53 rfl ?_
      exact (by simpa only [if_pos c1] using hq)
    · rw [if_neg c1] at hp
      refine rw_aload_n F dc_X0_hear_25 rfl ?_
      refine rw_getR F dc_X0_hear_26 fl_RX0_27 (by first | rfl | assumption | decide | exact r73_k (by assumption) | exact fb_k (by assumption) | exact sb_k (by assumption) | exact tb_k (by assumption) | exact sb_li (by assumption) | exact sb_s (by assumption) | exact tb_n (by assumption) | exact fb_k (sb_f (by assumption))) (by first | rfl | assumption | exact lk6 (by assumption) _ | exact lk2 (by assumption) _ | exact fb_l0 (by assumption) | exact fb_l1 (by assumption) | exact sb_l0 (by assumption) | exact sb_l1 (by assumption) | exact sb_l2 (by assumption) | exact sb_l3 (by assumption) | exact tb_l0 (by assumption) | exact tb_l1 (by assumption) | exact tb_l2 (by assumption) | exact lk2 (sb_li (by assumption)) _ | exact fb_l0 (sb_f (by assumption)) | exact fb_l1 (sb_f (by assumption))) ?_
      refine rw_iload_n F dc_X0_hear_29 rfl ?_
      obtain ⟨hs2, hp⟩ := hp
      refine rw_iaC F dc_X0_hear_30 (by first | rfl | assumption | decide | exact r73_k (by assumption) | exact fb_k (by assumption) | exact sb_k (by assumption) | exact tb_k (by assumption) | exact sb_li (by assumption) | exact sb_s (by assumption) | exact tb_n (by assumption) | exact fb_k (sb_f (by assumption))) (by first | rfl | exact r73_n (by assumption) | exact sb_sn (by assumption) | exact tb_nn (by assumption)) hs2 ?_
      refine rw_iconst (v := (-1)) F dc_X0_hear_31 rfl ?_
      refine rw_icmp_eq (tgt := 47) F dc_X0_hear_32 rfl (fun c3 => ?_) (fun c3 => ?_)
      · rw [if_pos c3] at hp
        refine rw_inc (n1 := 1) F dc_X0_hear_47 rfl rfl (by decide) rfl ?_
        refine rw_goto (tgt := 17) F dc_X0_hear_50 rfl ?_
        exact ih _ _ hp (by simpa only [if_neg c1, if_pos c3] using hq)
      · rw [if_neg c3] at hp
        refine rw_aload_n F dc_X0_hear_35 rfl ?_
        refine rw_aload_n F dc_X0_hear_36 rfl ?_
        refine rw_getR F dc_X0_hear_37 fl_RX0_27 (by first | rfl | assumption | decide | exact r73_k (by assumption) | exact fb_k (by assumption) | exact sb_k (by assumption) | exact tb_k (by assumption) | exact sb_li (by assumption) | exact sb_s (by assumption) | exact tb_n (by assumption) | exact fb_k (sb_f (by assumption))) (by first | rfl | assumption | exact lk6 (by assumption) _ | exact lk2 (by assumption) _ | exact fb_l0 (by assumption) | exact fb_l1 (by assumption) | exact sb_l0 (by assumption) | exact sb_l1 (by assumption) | exact sb_l2 (by assumption) | exact sb_l3 (by assumption) | exact tb_l0 (by assumption) | exact tb_l1 (by assumption) | exact tb_l2 (by assumption) | exact lk2 (sb_li (by assumption)) _ | exact fb_l0 (sb_f (by assumption)) | exact fb_l1 (sb_f (by assumption))) ?_
        refine rw_iload_n F dc_X0_hear_40 rfl ?_
        obtain ⟨hs4, hp⟩ := hp
        refine rw_iaC F dc_X0_hear_41 (by first | rfl | assumption | decide | exact r73_k (by assumption) | exact fb_k (by assumption) | exact sb_k (by assumption) | exact tb_k (by assumption) | exact sb_li (by assumption) | exact sb_s (by assumption) | exact tb_n (by assumption) | exact fb_k (sb_f (by assumption))) (by first | rfl | exact r73_n (by assumption) | exact sb_sn (by assumption) | exact tb_nn (by assumption)) hs4 ?_
        refine rw_iload_n F dc_X0_hear_42 rfl ?_
        refine rw_aload_n F dc_X0_hear_43 rfl ?_
        obtain ⟨hs5, hp⟩ := hp
        refine rw_cVv F [_, _, _] dc_X0_hear_44 mv_X0_hearOne ml_RX0_31 (by decide) (rc_0 (by first | rfl | assumption | decide | exact r73_k (by assumption) | exact fb_k (by assumption) | exact sb_k (by assumption) | exact tb_k (by assumption) | exact sb_li (by assumption) | exact sb_s (by assumption) | exact tb_n (by assumption) | exact fb_k (sb_f (by assumption)))) rfl rfl (Nat.le_of_ble_eq_true rfl) (ct_X0_hearOne hs5) ?_
        refine rw_inc (n1 := 1) F dc_X0_hear_47 rfl rfl (by decide) rfl ?_
        refine rw_goto (tgt := 17) F dc_X0_hear_50 rfl ?_
        exact ih _ _ hp (by simpa only [if_neg c1, if_neg c3] using hq)
theorem cr_X0_hear {E : tw_E} {t : Nat} {o : Nat} {N : Nat}   {τ : tw_T} (hp : p_X0_hear N t o τ) (ht : tw_tb t := by first | assumption | exact (show _ ∈ ([182, 184, 186, 188] : List Nat) by decide)) (ho : tw_isK o 2 = true := by first | rfl | assumption | exact sb_li (by assumption)) : tw_Cv E 6 mX0_hear [.ref 48, .ref t, .ref o] τ (g_X0_hear N t o τ) := by
  unfold p_X0_hear at hp
  refine ct_of (by decide) (by simp [Value.category]) (Nat.le_of_ble_eq_true rfl) (fun K hE F => ?_)
  subst hE
  refine rw_aload_n F dc_X0_hear_0 rfl ?_
  refine rw_iconst (v := 0) F dc_X0_hear_1 rfl ?_
  refine rw_put F dc_X0_hear_2 pf_RX0_9 (by first | rfl | assumption | decide | exact r73_k (by assumption) | exact fb_k (by assumption) | exact sb_k (by assumption) | exact tb_k (by assumption) | exact sb_li (by assumption) | exact sb_s (by assumption) | exact tb_n (by assumption) | exact fb_k (sb_f (by assumption))) (by first | rfl | assumption | exact lk6 (by assumption) _ | exact lk2 (by assumption) _ | exact fb_l0 (by assumption) | exact fb_l1 (by assumption) | exact sb_l0 (by assumption) | exact sb_l1 (by assumption) | exact sb_l2 (by assumption) | exact sb_l3 (by assumption) | exact tb_l0 (by assumption) | exact tb_l1 (by assumption) | exact tb_l2 (by assumption) | exact lk2 (sb_li (by assumption)) _ | exact fb_l0 (sb_f (by assumption)) | exact fb_l1 (sb_f (by assumption))) rfl rfl ?_
  refine rw_aload_n F dc_X0_hear_5 rfl ?_
  refine rw_iconst (v := 0) F dc_X0_hear_6 rfl ?_
  refine rw_put F dc_X0_hear_7 pf_RX0_15 (by first | rfl | assumption | decide | exact r73_k (by assumption) | exact fb_k (by assumption) | exact sb_k (by assumption) | exact tb_k (by assumption) | exact sb_li (by assumption) | exact sb_s (by assumption) | exact tb_n (by assumption) | exact fb_k (sb_f (by assumption))) (by first | rfl | assumption | exact lk6 (by assumption) _ | exact lk2 (by assumption) _ | exact fb_l0 (by assumption) | exact fb_l1 (by assumption) | exact sb_l0 (by assumption) | exact sb_l1 (by assumption) | exact sb_l2 (by assumption) | exact sb_l3 (by assumption) | exact tb_l0 (by assumption) | exact tb_l1 (by assumption) | exact tb_l2 (by assumption) | exact lk2 (sb_li (by assumption)) _ | exact fb_l0 (sb_f (by assumption)) | exact fb_l1 (sb_f (by assumption))) rfl rfl ?_
  refine rw_aload_n F dc_X0_hear_10 rfl ?_
  refine rw_iconst (v := 0) F dc_X0_hear_11 rfl ?_
  refine rw_put F dc_X0_hear_12 pf_RX0_18 (by first | rfl | assumption | decide | exact r73_k (by assumption) | exact fb_k (by assumption) | exact sb_k (by assumption) | exact tb_k (by assumption) | exact sb_li (by assumption) | exact sb_s (by assumption) | exact tb_n (by assumption) | exact fb_k (sb_f (by assumption))) (by first | rfl | assumption | exact lk6 (by assumption) _ | exact lk2 (by assumption) _ | exact fb_l0 (by assumption) | exact fb_l1 (by assumption) | exact sb_l0 (by assumption) | exact sb_l1 (by assumption) | exact sb_l2 (by assumption) | exact sb_l3 (by assumption) | exact tb_l0 (by assumption) | exact tb_l1 (by assumption) | exact tb_l2 (by assumption) | exact lk2 (sb_li (by assumption)) _ | exact fb_l0 (sb_f (by assumption)) | exact fb_l1 (sb_f (by assumption))) rfl rfl ?_
  refine rw_iconst (v := 0) F dc_X0_hear_15 rfl ?_
  refine rw_istore_n F dc_X0_hear_16 (by decide) rfl ?_
  exact lp_X0_hear_17 F ht ho N N _ _ hp ⟨rfl, by first | (simp only [g_X0_hear]; done) | rfl | (simp only [g_X0_hear]; rfl)⟩
