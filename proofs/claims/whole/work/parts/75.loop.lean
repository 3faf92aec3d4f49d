/-! ===== the loop of the law ===== -/
theorem law_sw {K : tw_K} {Q : Option Value → tw_T → Prop} {L : Nat} {xs : Nat → Int32} (F : tw_F K mL_law 40 Q) (S : tw_S K L xs) {c : Nat} {τ : tw_T} {x : Int32} (hI : Inv c τ) (hc : c < 512) (hL : 6 * c + 6 ≤ L) (hL2 : L ≤ 3072) (nxt : ∀ τ, Inv (c + 1) τ → tw_R K 1393 [.ref 260, .ref 0, .ref 190, .int (nI (6 * c))] [] τ) : tw_R K 33 [.ref 260, .ref 0, .ref 190, .int (nI (6 * c))] [.int x] τ := by
  refine rw_tswc (0) 0 216 F dc_L_law_33 rfl rfl (by decide) (by decide) (fun _ => lc_set F S hI hc hL hL2 nxt) (fun b0 => ?_)
  refine rw_tswc (1) 1 249 F dc_L_law_33 rfl rfl (by decide) (by decide) (fun _ => lc_light F S hI hc hL hL2 nxt) (fun b1 => ?_)
  refine rw_tswc (2) 2 272 F dc_L_law_33 rfl rfl (by decide) (by decide) (fun _ => lc_ship F S hI hc hL hL2 nxt) (fun b2 => ?_)
  refine rw_tswc (3) 3 305 F dc_L_law_33 rfl rfl (by decide) (by decide) (fun _ => lc_of F S hI hc hL hL2 nxt) (fun b3 => ?_)
  refine rw_tswc (4) 4 338 F dc_L_law_33 rfl rfl (by decide) (by decide) (fun _ => lc_change F S hI hc hL hL2 nxt) (fun b4 => ?_)
  refine rw_tswc (5) 5 381 F dc_L_law_33 rfl rfl (by decide) (by decide) (fun _ => lc_who F S hI hc hL hL2 nxt) (fun b5 => ?_)
  refine rw_tswc (6) 6 404 F dc_L_law_33 rfl rfl (by decide) (by decide) (fun _ => lc_go F S hI hc hL hL2 nxt) (fun b6 => ?_)
  refine rw_tswc (7) 7 427 F dc_L_law_33 rfl rfl (by decide) (by decide) (fun _ => lc_now F S hI hc hL hL2 nxt) (fun b7 => ?_)
  refine rw_tswc (8) 8 450 F dc_L_law_33 rfl rfl (by decide) (by decide) (fun _ => lc_ahead F S hI hc hL hL2 nxt) (fun b8 => ?_)
  refine rw_tswc (9) 9 493 F dc_L_law_33 rfl rfl (by decide) (by decide) (fun _ => lc_shows F S hI hc hL hL2 nxt) (fun b9 => ?_)
  refine rw_tswc (10) 10 526 F dc_L_law_33 rfl rfl (by decide) (by decide) (fun _ => lc_strands F S hI hc hL hL2 nxt) (fun b10 => ?_)
  refine rw_tswc (11) 11 549 F dc_L_law_33 rfl rfl (by decide) (by decide) (fun _ => lc_when F S hI hc hL hL2 nxt) (fun b11 => ?_)
  refine rw_tswc (12) 12 582 F dc_L_law_33 rfl rfl (by decide) (by decide) (fun _ => lc_meet F S hI hc hL hL2 nxt) (fun b12 => ?_)
  refine rw_tswc (13) 13 615 F dc_L_law_33 rfl rfl (by decide) (by decide) (fun _ => lc_period F S hI hc hL hL2 nxt) (fun b13 => ?_)
  refine rw_tswc (14) 14 628 F dc_L_law_33 rfl rfl (by decide) (by decide) (fun _ => lc_lagFor F S hI hc hL hL2 nxt) (fun b14 => ?_)
  refine rw_tswc (15) 15 651 F dc_L_law_33 rfl rfl (by decide) (by decide) (fun _ => lc_patternFor F S hI hc hL hL2 nxt) (fun b15 => ?_)
  refine rw_tswc (16) 16 674 F dc_L_law_33 rfl rfl (by decide) (by decide) (fun _ => lc_kindFor F S hI hc hL hL2 nxt) (fun b16 => ?_)
  refine rw_tswc (17) 17 707 F dc_L_law_33 rfl rfl (by decide) (by decide) (fun _ => lc_start F S hI hc hL hL2 nxt) (fun b17 => ?_)
  refine rw_tswc (18) 18 740 F dc_L_law_33 rfl rfl (by decide) (by decide) (fun _ => lc_speedFor F S hI hc hL hL2 nxt) (fun b18 => ?_)
  refine rw_tswc (19) 19 773 F dc_L_law_33 rfl rfl (by decide) (by decide) (fun _ => lc_keepIn F S hI hc hL hL2 nxt) (fun b19 => ?_)
  refine rw_tswc (20) 20 806 F dc_L_law_33 rfl rfl (by decide) (by decide) (fun _ => lc_lags F S hI hc hL hL2 nxt) (fun b20 => ?_)
  refine rw_tswc (21) 21 829 F dc_L_law_33 rfl rfl (by decide) (by decide) (fun _ => lc_fits F S hI hc hL hL2 nxt) (fun b21 => ?_)
  refine rw_tswc (22) 22 852 F dc_L_law_33 rfl rfl (by decide) (by decide) (fun _ => lc_pattern F S hI hc hL hL2 nxt) (fun b22 => ?_)
  refine rw_tswc (23) 23 875 F dc_L_law_33 rfl rfl (by decide) (by decide) (fun _ => lc_kinds F S hI hc hL hL2 nxt) (fun b23 => ?_)
  refine rw_tswc (24) 24 908 F dc_L_law_33 rfl rfl (by decide) (by decide) (fun _ => lc_nights F S hI hc hL hL2 nxt) (fun b24 => ?_)
  refine rw_tswc (25) 25 931 F dc_L_law_33 rfl rfl (by decide) (by decide) (fun _ => lc_odds F S hI hc hL hL2 nxt) (fun b25 => ?_)
  refine rw_tswc (26) 26 965 F dc_L_law_33 rfl rfl (by decide) (by decide) (fun _ => lc_seed F S hI hc hL hL2 nxt) (fun b26 => ?_)
  refine rw_tswc (27) 27 988 F dc_L_law_33 rfl rfl (by decide) (by decide) (fun _ => lc_feed F S hI hc hL hL2 nxt) (fun b27 => ?_)
  refine rw_tswc (28) 28 1021 F dc_L_law_33 rfl rfl (by decide) (by decide) (fun _ => lc_wipe F S hI hc hL hL2 nxt) (fun b28 => ?_)
  refine rw_tswc (29) 29 1034 F dc_L_law_33 rfl rfl (by decide) (by decide) (fun _ => lc_text F S hI hc hL hL2 nxt) (fun b29 => ?_)
  refine rw_tswc (30) 30 1047 F dc_L_law_33 rfl rfl (by decide) (by decide) (fun _ => lc_hold F S hI hc hL hL2 nxt) (fun b30 => ?_)
  refine rw_tswc (31) 31 1080 F dc_L_law_33 rfl rfl (by decide) (by decide) (fun _ => lc_as F S hI hc hL hL2 nxt) (fun b31 => ?_)
  refine rw_tswc (32) 32 1113 F dc_L_law_33 rfl rfl (by decide) (by decide) (fun _ => lc_sheet F S hI hc hL hL2 nxt) (fun b32 => ?_)
  refine rw_tswc (33) 33 1156 F dc_L_law_33 rfl rfl (by decide) (by decide) (fun _ => lc_write F S hI hc hL hL2 nxt) (fun b33 => ?_)
  refine rw_tswc (34) 34 1199 F dc_L_law_33 rfl rfl (by decide) (by decide) (fun _ => lc_copy F S hI hc hL hL2 nxt) (fun b34 => ?_)
  refine rw_tswc (35) 35 1262 F dc_L_law_33 rfl rfl (by decide) (by decide) (fun _ => lc_load F S hI hc hL hL2 nxt) (fun b35 => ?_)
  refine rw_tswc (36) 36 1285 F dc_L_law_33 rfl rfl (by decide) (by decide) (fun _ => lc_judge F S hI hc hL hL2 nxt) (fun b36 => ?_)
  refine rw_tswc (37) 37 1308 F dc_L_law_33 rfl rfl (by decide) (by decide) (fun _ => lc_image F S hI hc hL hL2 nxt) (fun b37 => ?_)
  refine rw_tswc (38) 38 1321 F dc_L_law_33 rfl rfl (by decide) (by decide) (fun _ => lc_undo F S hI hc hL hL2 nxt) (fun b38 => ?_)
  refine rw_tswc (39) 39 1334 F dc_L_law_33 rfl rfl (by decide) (by decide) (fun _ => lc_tear F S hI hc hL hL2 nxt) (fun b39 => ?_)
  refine rw_tswc (40) 40 1347 F dc_L_law_33 rfl rfl (by decide) (by decide) (fun _ => lc_count F S hI hc hL hL2 nxt) (fun b40 => ?_)
  refine rw_tswc (41) 41 1370 F dc_L_law_33 rfl rfl (by decide) (by decide) (fun _ => lc_status F S hI hc hL hL2 nxt) (fun b41 => ?_)
  exact rw_tsw F dc_L_law_33 1393 (Or.inl ⟨by have h0 := lv_neT b0 (a := 0) (by decide); have h1 := lv_neT b1 (a := 1) (by decide); have h2 := lv_neT b2 (a := 2) (by decide); have h3 := lv_neT b3 (a := 3) (by decide); have h4 := lv_neT b4 (a := 4) (by decide); have h5 := lv_neT b5 (a := 5) (by decide); have h6 := lv_neT b6 (a := 6) (by decide); have h7 := lv_neT b7 (a := 7) (by decide); have h8 := lv_neT b8 (a := 8) (by decide); have h9 := lv_neT b9 (a := 9) (by decide); have h10 := lv_neT b10 (a := 10) (by decide); have h11 := lv_neT b11 (a := 11) (by decide); have h12 := lv_neT b12 (a := 12) (by decide); have h13 := lv_neT b13 (a := 13) (by decide); have h14 := lv_neT b14 (a := 14) (by decide); have h15 := lv_neT b15 (a := 15) (by decide); have h16 := lv_neT b16 (a := 16) (by decide); have h17 := lv_neT b17 (a := 17) (by decide); have h18 := lv_neT b18 (a := 18) (by decide); have h19 := lv_neT b19 (a := 19) (by decide); have h20 := lv_neT b20 (a := 20) (by decide); have h21 := lv_neT b21 (a := 21) (by decide); have h22 := lv_neT b22 (a := 22) (by decide); have h23 := lv_neT b23 (a := 23) (by decide); have h24 := lv_neT b24 (a := 24) (by decide); have h25 := lv_neT b25 (a := 25) (by decide); have h26 := lv_neT b26 (a := 26) (by decide); have h27 := lv_neT b27 (a := 27) (by decide); have h28 := lv_neT b28 (a := 28) (by decide); have h29 := lv_neT b29 (a := 29) (by decide); have h30 := lv_neT b30 (a := 30) (by decide); have h31 := lv_neT b31 (a := 31) (by decide); have h32 := lv_neT b32 (a := 32) (by decide); have h33 := lv_neT b33 (a := 33) (by decide); have h34 := lv_neT b34 (a := 34) (by decide); have h35 := lv_neT b35 (a := 35) (by decide); have h36 := lv_neT b36 (a := 36) (by decide); have h37 := lv_neT b37 (a := 37) (by decide); have h38 := lv_neT b38 (a := 38) (by decide); have h39 := lv_neT b39 (a := 39) (by decide); have h40 := lv_neT b40 (a := 40) (by decide); have h41 := lv_neT b41 (a := 41) (by decide); omega, by decide⟩) (nxt τ (Inv_mono hI hc))
theorem law_loop {K : tw_K} {Q : Option Value → tw_T → Prop} {L : Nat} {xs : Nat → Int32} (F : tw_F K mL_law 40 Q) (S : tw_S K L xs) (hL2 : L ≤ 3072) (hQ : ∀ τ, Q (some (.int 1)) τ) : ∀ d c (τ : tw_T), L - 6 * c ≤ d → Inv c τ → tw_R K 18 [.ref 260, .ref 0, .ref 190, .int (nI (6 * c))] [] τ := by
  intro d
  induction d with
  | zero =>
    intro c τ hd hI
    refine rw_iload_n F dc_L_law_18 rfl ?_
    refine rw_aload_n F dc_L_law_19 rfl ?_
    refine rw_slen F S dc_L_law_20 ?_
    refine rw_bipush (v := 6) F dc_L_law_21 rfl ?_
    refine rw_isub F dc_L_law_23 ?_
    refine rw_icmp_gt (tgt := 1399) F dc_L_law_24 rfl (fun h => ?_) (fun h => ?_)
    · refine rw_iconst (v := 1) F dc_L_law_1399 rfl ?_
      exact rw_iret F dc_L_law_1400 rfl rfl (hQ τ)
    · exfalso
      have hc := hI.1
      have e6 : (6 : Int32) = nI 6 := rfl
      rw [e6, Int32.lt_iff_toInt_lt, pk_sub_toInt (by omega) (by decide), nI_toInt (by omega)] at h
      omega
  | succ d ih =>
    intro c τ hd hI
    have hc0 := hI.1
    refine rw_iload_n F dc_L_law_18 rfl ?_
    refine rw_aload_n F dc_L_law_19 rfl ?_
    refine rw_slen F S dc_L_law_20 ?_
    refine rw_bipush (v := 6) F dc_L_law_21 rfl ?_
    refine rw_isub F dc_L_law_23 ?_
    refine rw_icmp_gt (tgt := 1399) F dc_L_law_24 rfl (fun h => ?_) (fun h => ?_)
    · refine rw_iconst (v := 1) F dc_L_law_1399 rfl ?_
      exact rw_iret F dc_L_law_1400 rfl rfl (hQ τ)
    · have hL : 6 * c + 6 ≤ L := by
        have e6 : (6 : Int32) = nI 6 := rfl
        rw [e6, Int32.lt_iff_toInt_lt, pk_sub_toInt (by omega) (by decide), nI_toInt (by omega)] at h
        omega
      have hc : c < 512 := by omega
      refine rw_aload_n F dc_L_law_27 rfl ?_
      refine rw_iload_n F dc_L_law_28 rfl ?_
      refine rw_sld F S dc_L_law_29 (vp_in_nI (by omega) (by omega)) ?_
      refine rw_bipush (v := 63) F dc_L_law_30 rfl ?_
      refine rw_iand F dc_L_law_32 ?_
      refine law_sw F S hI hc hL hL2 (fun τ' hI' => ?_)
      refine rw_inc (n1 := 6) F dc_L_law_1393 rfl (by decide) (by decide) rfl ?_
      refine rw_goto (tgt := 18) F dc_L_law_1396 rfl ?_
      have e : nI (6 * c) + 6 = nI (6 * (c + 1)) := nI_add (6 * c) 6
      rw [e]
      exact ih (c + 1) τ' (by omega) hI' 
