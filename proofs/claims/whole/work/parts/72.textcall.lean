/-! ===== the call text: the step ===== -/
theorem q_fail {bf : Nat} (h : bf < 1000) : (-1 - nI bf : Int32) < 0 := by
  have e : (-1 - nI bf : Int32) = -1 + -(nI bf) := Int32.sub_eq_add_neg _ _
  have e2 : (-1 - nI bf : Int32).toInt = -1 - (bf : Int) := by
    have h1 : (-1 : Int32) = nI 0 - nI 1 := by decide
    rw [Int32.toInt_sub, nI_toInt (by omega), show (-1 : Int32).toInt = -1 by decide]
    exact Int.bmod_eq_of_le (by omega) (by omega)
  rw [Int32.lt_iff_toInt_lt, e2, show (0 : Int32).toInt = 0 from by decide]
  omega
set_option maxHeartbeats 1000000 in
theorem st_text {c N : Nat} {τ : tw_T} (hI : Inv c τ) (hc : c < 512) (hN : 5000 ≤ N) : p_X8_text N τ ∧ p_X9_text N (g_X8_text N τ) ∧ f_X8_text N τ = f_X9_text N (g_X8_text N τ) ∧ Inv (c + 1) (g_X9_text N (g_X8_text N τ)) := by
  obtain ⟨M, ok, row, spt, st, hz⟩ := inv_M hI
  have hM1 := ok.2.1
  have hM0 := ok.1
  obtain ⟨I0, I1, I2, ⟨n, hn, i6, i27, ib⟩, I4, I5, I6⟩ := hI
  -- the bytes
  obtain ⟨B, hB, hB28, hB195⟩ : ∃ B : Nat → Nat, (∀ j, B j < 256) ∧ (∀ j, j < n → τ 28 j = nI (B j)) ∧ ∀ j, j < n → τ 195 j = nI (B j) := by
    refine ⟨fun j => if j < n then (τ 195 j).toNatClampNeg else 0, fun j => ?_, fun j hj => ?_, fun j hj => ?_⟩
    · show (if j < n then (τ 195 j).toNatClampNeg else 0) < 256
      by_cases h : j < n
      · obtain ⟨_, b, hb, e⟩ := ib j h
        rw [if_pos h, e, nI_clamp (by omega)]
        exact hb
      · rw [if_neg h]; decide
    · obtain ⟨e1, b, hb, e⟩ := ib j hj
      show τ 28 j = nI (if j < n then (τ 195 j).toNatClampNeg else 0)
      rw [if_pos hj, e1, e, nI_clamp (by omega)]
    · obtain ⟨e1, b, hb, e⟩ := ib j hj
      show τ 195 j = nI (if j < n then (τ 195 j).toNatClampNeg else 0)
      rw [if_pos hj, e, nI_clamp (by omega)]
  -- the class takes a draft and its first token
  obtain ⟨d1, d2, d3, d4, d5⟩ := sea_take (N := N) (b := 31) (o := 1) (τ := τ) hM1 (by omega) (by omega) st
  obtain ⟨⟨r, x1, x2⟩, x3⟩ := c_next (N := N) (e := 0) (τ := tw_sr (g_X4_take N 31 1 τ) 27 (upd ((g_X4_take N 31 1 τ) 27) 4 0)) hn hB (by omega) (Nat.zero_le _) (fun j hj => by rw [sr_ne (by decide), d4 28 (by decide)]; exact hB28 j hj) (by rw [sr_self, pk_un (by decide), d4 27 (by decide)]; exact i27) (by rw [sr_self, pk_us]; rfl)
  have hb0 : bT B n 0 ≤ n := (bT_le (Nat.zero_le _)).2
  generalize hA : g_X7_nextToken N (tw_sr (g_X4_take N 31 1 τ) 27 (upd ((g_X4_take N 31 1 τ) 27) 4 0)) = A at *
  have Aq : ∀ q, q ≠ 27 → A q = (g_X4_take N 31 1 τ) q := fun q hq => by rw [x1, sr_ne hq, sr_ne hq]
  have cA : curC B n (bT B n 0) A := ⟨fun j hj => by rw [Aq 28 (by decide), d4 28 (by decide)]; exact hB28 j hj, by rw [x1, sr_self]; exact x2⟩
  have stA : stC A 31 M := by
    obtain ⟨p1, p2, p3⟩ := d1
    exact ⟨by rw [Aq _ (by decide)]; exact p1, by rw [Aq _ (by decide)]; exact p2, fun i hi => by rw [Aq _ (by omega)]; exact p3 i hi⟩
  -- the reference's first token, on any store that is as τ where it reads
  have ref : ∀ G : tw_T, (∀ q, 190 ≤ q → G q = τ q) → ∃ Z, g_X9_token N (tw_sr (tw_sr (tw_sr (tw_sr G 190 (upd (G 190) 8 0)) 190 (upd ((tw_sr G 190 (upd (G 190) 8 0)) 190) 11 0)) 190 (upd ((tw_sr (tw_sr G 190 (upd (G 190) 8 0)) 190 (upd ((tw_sr G 190 (upd (G 190) 8 0)) 190) 11 0)) 190) 14 0)) 190 (upd ((tw_sr (tw_sr (tw_sr G 190 (upd (G 190) 8 0)) 190 (upd ((tw_sr G 190 (upd (G 190) 8 0)) 190) 11 0)) 190 (upd ((tw_sr (tw_sr G 190 (upd (G 190) 8 0)) 190 (upd ((tw_sr G 190 (upd (G 190) 8 0)) 190) 11 0)) 190) 14 0)) 190) 15 ((tw_sr (tw_sr (tw_sr G 190 (upd (G 190) 8 0)) 190 (upd ((tw_sr G 190 (upd (G 190) 8 0)) 190) 11 0)) 190 (upd ((tw_sr (tw_sr G 190 (upd (G 190) 8 0)) 190 (upd ((tw_sr G 190 (upd (G 190) 8 0)) 190) 11 0)) 190) 14 0)) 191 1))) = Z ∧ mS B n (bT B n 0) 0 (M 1) Z ∧ (∀ q, q ≠ 190 → Z q = G q) ∧ (∀ j, j < 7 → Z 190 j = G 190 j) ∧ p_X9_token N (tw_sr (tw_sr (tw_sr (tw_sr G 190 (upd (G 190) 8 0)) 190 (upd ((tw_sr G 190 (upd (G 190) 8 0)) 190) 11 0)) 190 (upd ((tw_sr (tw_sr G 190 (upd (G 190) 8 0)) 190 (upd ((tw_sr G 190 (upd (G 190) 8 0)) 190) 11 0)) 190) 14 0)) 190 (upd ((tw_sr (tw_sr (tw_sr G 190 (upd (G 190) 8 0)) 190 (upd ((tw_sr G 190 (upd (G 190) 8 0)) 190) 11 0)) 190 (upd ((tw_sr (tw_sr G 190 (upd (G 190) 8 0)) 190 (upd ((tw_sr G 190 (upd (G 190) 8 0)) 190) 11 0)) 190) 14 0)) 190) 15 ((tw_sr (tw_sr (tw_sr G 190 (upd (G 190) 8 0)) 190 (upd ((tw_sr G 190 (upd (G 190) 8 0)) 190) 11 0)) 190 (upd ((tw_sr (tw_sr G 190 (upd (G 190) 8 0)) 190 (upd ((tw_sr G 190 (upd (G 190) 8 0)) 190) 11 0)) 190) 14 0)) 191 1))) := by
    intro G hG
    have n191 : (191 : Nat) ≠ 190 := by decide
    simp only [sr_sr, sr_self, sr_ne n191]
    have g1 : G 191 1 = nI (M 1) := by rw [hG 191 (by decide)]; exact row 1 (by decide) (by decide)
    rw [g1]
    obtain ⟨⟨r', y1, y2, y3⟩, y4⟩ := m_next (N := N) (e := 0) (τ := tw_sr G 190 (upd (upd (upd (upd (G 190) 8 0) 11 0) 14 0) 15 (nI (M 1)))) hn hB (by omega) (Nat.zero_le _) ⟨by rw [sr_self, pk_un (by decide), pk_un (by decide), pk_un (by decide), pk_un (by decide), hG 190 (by decide)]; exact i6, fun j hj => by rw [sr_ne (by decide), hG 195 (by decide)]; exact hB195 j hj⟩ (by rw [sr_self, pk_un (by decide), pk_un (by decide), pk_un (by decide), pk_us]; rfl)
    rw [sr_self] at y3
    refine ⟨_, rfl, ?_, fun q hq => by rw [y1, sr_ne hq, sr_ne hq], fun j hj => by rw [y1, sr_self, y3 j (by omega), pk_un (by omega), pk_un (by omega), pk_un (by omega), pk_un (by omega)], y4⟩
    rw [y1, sr_sr]
    refine ⟨⟨⟨?_, fun j hj => by rw [sr_ne (by decide), hG 195 (by decide)]; exact hB195 j hj⟩, by rw [sr_self]; exact y2⟩, ?_, ?_, ?_⟩
    · rw [sr_self, y3 6 (by decide), pk_un (by decide), pk_un (by decide), pk_un (by decide), pk_un (by decide), hG 190 (by decide)]; exact i6
    · rw [sr_self, y3 11 (by decide), pk_un (by decide), pk_un (by decide), pk_us]
    · rw [sr_self, y3 14 (by decide), pk_un (by decide), pk_us]; rfl
    · rw [sr_self, y3 15 (by decide), pk_us]
  -- both read in step
  have both : ∀ Z : tw_T, mS B n (bT B n 0) 0 (M 1) Z → rowT (Z 191) M → p_X9_readItem N Z ∧ txR n (60 * c) M A Z (lf_X7_readText_11 N N 1 A) (lg_X7_readText_11 N N 1 A) (lo_X7_readText_11 N N 1 A) (lf_X9_text_33 N N (g_X9_readItem N Z)) (lg_X9_text_33 N N (g_X9_readItem N Z)) (lo_X9_text_33 N N (g_X9_readItem N Z)) := fun Z h1 h2 => by
    have := t_loop (N := N) (M0 := M) hn hB (by omega) ok 120 (bT B n 0) 0 M N N A Z (by omega) hb0 (by omega) (by omega) (by omega) ok (Nat.le_refl _) cA stA h1 (chn_0 _ M) h2
    exact this
  unfold p_X8_text p_X9_text f_X8_text g_X8_text f_X9_text g_X9_text
  have eF : f_X7_readText N (g_X4_take N 31 1 τ) = lf_X7_readText_11 N N 1 A := by unfold f_X7_readText; rw [hA]
  have eG : g_X7_readText N (g_X4_take N 31 1 τ) = lg_X7_readText_11 N N 1 A := by unfold g_X7_readText; rw [hA]
  have eP : p_X7_readText N (g_X4_take N 31 1 τ) = (p_X7_nextToken N (tw_sr (g_X4_take N 31 1 τ) 27 (upd ((g_X4_take N 31 1 τ) 27) 4 0)) ∧ lo_X7_readText_11 N N 1 A) := by unfold p_X7_readText; rw [hA]
  rw [eF, eG, eP]
  -- how the class ends, told by the reference on τ itself
  obtain ⟨Zτ, zt1, zt2, zt3, zt4, zt5⟩ := ref τ (fun _ _ => rfl)
  obtain ⟨w1, w2, w3, w4, w5, w6, w7, w8⟩ := both Zτ zt2 (by rw [zt3 191 (by decide)]; exact row)
  generalize hf : lf_X7_readText_11 N N 1 A = fc at *
  generalize hg : lg_X7_readText_11 N N 1 A = gc at *
  have gq : ∀ q, q ≠ 27 → (q < 31 ∨ 44 ≤ q) → gc q = τ q := fun q h1 h2 => by rw [w4 q h1 (by omega), Aq q h1, d4 q (by omega)]
  have e120 : ∀ K' : Nat, K' < 120 → ¬ nI K' < 0 := fun K' h => nI_pos (by omega)
  rcases w8 with ⟨bf, u1, u2, u3, u4⟩ | ⟨K', M', u0, u1, u2, u3, u4, u5, u6, u7⟩
  · -- a fault: the sea stays
    have hneg : fc < 0 := by rw [u2]; exact q_fail (by omega)
    rw [if_pos hneg, if_pos hneg, if_pos hneg]
    have Gq : ∀ q, 190 ≤ q → (tw_sr gc 27 (upd (gc 27) 1 0)) q = τ q := fun q hq => by rw [sr_ne (by omega), gq q (by omega) (by omega)]
    have Gq2 : ∀ q, q ≠ 27 → (q < 31 ∨ 44 ≤ q) → (tw_sr gc 27 (upd (gc 27) 1 0)) q = τ q := fun q h1 h2 => by rw [sr_ne h1, gq q h1 h2]
    have G27 : (tw_sr gc 27 (upd (gc 27) 1 0)) 27 1 = 0 := by rw [sr_self, pk_us]
    generalize tw_sr gc 27 (upd (gc 27) 1 0) = G at *
    obtain ⟨Z, z1, z2, z3, z4, z5⟩ := ref G Gq
    obtain ⟨v1, v2, v3, v4, v5, v6, v7, v8⟩ := both Z z2 (by rw [z3 191 (by decide), Gq 191 (by decide)]; exact row)
    rw [z1]
    have key : lf_X9_text_33 N N (g_X9_readItem N Z) = fc ∧ lg_X9_text_33 N N (g_X9_readItem N Z) 191 = Z 191 := by
      rcases v8 with ⟨bf', y1, y2, y3, y4⟩ | ⟨K', M', y0, y1, y2, y3⟩
      · exact ⟨y3.trans y2.symm, y4⟩
      · rw [y1] at hneg
        exact absurd hneg (e120 K' y0)
    generalize lg_X9_text_33 N N (g_X9_readItem N Z) = H at *
    refine ⟨⟨d5, ⟨x3, w2⟩, trivial⟩, ⟨z5, v1, v3⟩, key.1.symm, ?_⟩
    have Hq : ∀ q, q ≠ 27 → q ≠ 190 → q ≠ 197 → (q < 31 ∨ 44 ≤ q) → H q = τ q := fun q h1 h2 h3 h4 => by
      by_cases e : q = 191
      · rw [e, key.2, z3 191 (by decide), Gq 191 (by decide)]
      · rw [v5 q h2 e h3, z3 q h2, Gq2 q h1 h4]
    have H3 : H 190 3 = τ 190 3 := by rw [v6 3 (by decide), z4 3 (by decide), Gq 190 (by decide)]
    have H27 : H 27 1 = nI 0 := by rw [v5 27 (by decide) (by decide) (by decide), z3 27 (by decide), G27]; rfl
    exact ⟨by omega, I_sea_mono (I_sea_congr (fun k a b => Hq k (by omega) (by omega) (by omega) (by omega)) (Hq 191 (by decide) (by decide) (by decide) (by decide)) I1), I_kept_mono (I_kept_congr (by rw [Hq 0 (by decide) (by decide) (by decide) (by decide)]) H3 (fun k a b => Hq k (by omega) (by omega) (by omega) (by omega)) (Hq 192 (by decide) (by decide) (by decide) (by decide)) I2), ⟨0, by decide, v7.trans rfl, H27, fun j hj => absurd hj (Nat.not_lt_zero _)⟩, I_sheet_congr (fun k a b => Hq k (by omega) (by omega) (by omega) (by omega)) (Hq _ (by decide) (by decide) (by decide) (by decide)) (Hq _ (by decide) (by decide) (by decide) (by decide)) (Hq _ (by decide) (by decide) (by decide) (by decide)) I4, I_fnd_congr (Hq _ (by decide) (by decide) (by decide) (by decide)) (Hq _ (by decide) (by decide) (by decide) (by decide)) I5, I_dem_congr (Hq _ (by decide) (by decide) (by decide) (by decide)) I6⟩
  · -- the sea takes the draft
    have hneg : ¬ fc < 0 := by rw [u1]; exact e120 K' u0
    rw [if_neg hneg, if_neg hneg, if_neg hneg]
    have hM1' := u4.2.1
    obtain ⟨s1, s2, s3, s4, s5⟩ := sea_take (N := N) (b := 1) (o := 31) (τ := gc) hM1' (by omega) (by omega) u3
    have Gq2 : ∀ q, q ≠ 27 → (q < 1 ∨ (14 ≤ q ∧ q < 31) ∨ 44 ≤ q) → (tw_sr (g_X4_take N 1 31 gc) 27 (upd ((g_X4_take N 1 31 gc) 27) 1 0)) q = τ q := fun q h1 h2 => by rw [sr_ne h1, s4 q (by omega), gq q h1 (by omega)]
    have G27 : (tw_sr (g_X4_take N 1 31 gc) 27 (upd ((g_X4_take N 1 31 gc) 27) 1 0)) 27 1 = 0 := by rw [sr_self, pk_us]
    have Gq : ∀ q, 190 ≤ q → (tw_sr (g_X4_take N 1 31 gc) 27 (upd ((g_X4_take N 1 31 gc) 27) 1 0)) q = τ q := fun q hq => Gq2 q (by omega) (by omega)
    obtain ⟨Z, z1, z2, z3, z4, z5⟩ := ref _ Gq
    obtain ⟨v1, v2, v3, v4, v5, v6, v7, v8⟩ := both Z z2 (by rw [z3 191 (by decide), Gq 191 (by decide)]; exact row)
    rw [z1]
    rcases v8 with ⟨bf', y1, y2, y3, y4⟩ | ⟨K2, M2, y0, y1, y2, y3, y4, y5, y6, y7⟩
    · exact absurd (by rw [y2]; exact q_fail (by omega)) hneg
    obtain ⟨s1, s2, s3, _, _⟩ := sea_take (N := N) (b := 1) (o := 31) (τ := gc) y4.2.1 (by omega) (by omega) y3
    have Gst : stC (tw_sr (g_X4_take N 1 31 gc) 27 (upd ((g_X4_take N 1 31 gc) 27) 1 0)) 1 M2 := by
      obtain ⟨p1, p2, p3⟩ := s1
      have := y4.2.1
      exact ⟨by rw [sr_ne (by decide)]; exact p1, by rw [sr_ne (by decide)]; exact p2, fun i hi => by rw [sr_ne (by omega)]; exact p3 i hi⟩
    have Gz : (tw_sr (g_X4_take N 1 31 gc) 27 (upd ((g_X4_take N 1 31 gc) 27) 1 0)) 1 3 = τ 1 3 := by
      rw [sr_ne (by decide), s2, w4 31 (by decide) (by decide), Aq 31 (by decide), d2]
    have Gs : ∀ i, i < 10 → (tw_sr (g_X4_take N 1 31 gc) 27 (upd ((g_X4_take N 1 31 gc) 27) 1 0)) (1 + 12) i = τ (1 + 12) i := fun i hi => by
      rw [sr_ne (by decide), s3 i hi, w4 (31 + 12) (by decide) (by decide), Aq (31 + 12) (by decide), d3 i hi]
    generalize tw_sr (g_X4_take N 1 31 gc) 27 (upd ((g_X4_take N 1 31 gc) 27) 1 0) = G at *
    generalize lg_X9_text_33 N N (g_X9_readItem N Z) = H at *
    refine ⟨⟨d5, ⟨x3, w2⟩, s5, trivial⟩, ⟨z5, v1, v3⟩, y1.trans y2.symm, ?_⟩
    have Hq : ∀ q, q ≠ 27 → q ≠ 190 → q ≠ 191 → q ≠ 197 → (q < 1 ∨ (14 ≤ q ∧ q < 31) ∨ 44 ≤ q) → H q = τ q := fun q h1 h2 h3 h4 h5 => by rw [v5 q h2 h3 h4, z3 q h2, Gq2 q h1 h5]
    have HG : ∀ q, q < 14 → H q = G q := fun q hq => by rw [v5 q (by omega) (by omega) (by omega), z3 q (by omega)]
    have ho : oth (H 191) (τ 191) := fun j hj => by
      have h1 := y7 j hj
      rw [z3 191 (by decide), Gq 191 (by decide)] at h1
      exact h1
    have H3 : H 190 3 = τ 190 3 := by rw [v6 3 (by decide), z4 3 (by decide), Gq 190 (by decide)]
    have H27 : H 27 1 = nI 0 := by rw [v5 27 (by decide) (by decide) (by decide), z3 27 (by decide), G27]; rfl
    have Isea : I_sea (c + 1) H := by
      refine sea_iff.mpr ⟨M2, okT_mono y4 (by omega), y6, fun i hi => ?_, ?_, ?_, fun i hi => ?_⟩
      · rw [ho (7 + i) (by omega)]
        rcases spt i hi with e | ⟨k, hk, e⟩
        · exact Or.inl e
        · exact Or.inr ⟨k, by omega, e⟩
      · obtain ⟨p1, p2, p3⟩ := Gst
        have := y4.2.1
        exact ⟨by rw [HG _ (by decide)]; exact p1, by rw [HG _ (by decide)]; exact p2, fun i hi => by rw [HG _ (by omega)]; exact p3 i hi⟩
      · rw [HG 1 (by decide), Gz, ho 2 (Or.inl rfl)]
        exact hz.1
      · rw [HG (1 + 12) (by decide), Gs i hi, ho (7 + i) (by omega)]
        exact hz.2 i hi
    exact ⟨by omega, Isea, I_kept_mono (I_kept_congr (by rw [Hq 0 (by decide) (by decide) (by decide) (by decide) (by decide)]) H3 (fun k a b => Hq k (by omega) (by omega) (by omega) (by omega) (by omega)) (Hq 192 (by decide) (by decide) (by decide) (by decide) (by decide)) I2), ⟨0, by decide, v7.trans rfl, H27, fun j hj => absurd hj (Nat.not_lt_zero _)⟩, I_sheet_congr (fun k a b => Hq k (by omega) (by omega) (by omega) (by omega) (by omega)) (Hq _ (by decide) (by decide) (by decide) (by decide) (by decide)) (Hq _ (by decide) (by decide) (by decide) (by decide) (by decide)) (Hq _ (by decide) (by decide) (by decide) (by decide) (by decide)) I4, I_fnd_congr (Hq _ (by decide) (by decide) (by decide) (by decide) (by decide)) (Hq _ (by decide) (by decide) (by decide) (by decide) (by decide)) I5, I_dem_congr (Hq _ (by decide) (by decide) (by decide) (by decide) (by decide)) I6⟩
