/-! ===== the calls: now, count, status, hold ===== -/
theorem inv_sums {c N : Nat} {τ : tw_T} (hI : Inv c τ) (hN : 5000 ≤ N) : f_X1_strandedOfAll N 3 τ = f_X9_sumOf N 5 τ ∧ p_X1_strandedOfAll N 3 τ ∧ p_X9_sumOf N 5 τ ∧ f_X1_sawOfAll N 3 τ = f_X9_sumOf N 6 τ ∧ p_X1_sawOfAll N 3 τ ∧ p_X9_sumOf N 6 τ := by
  obtain ⟨M, ok, row, spt, ⟨hl, hn, hs⟩, hz⟩ := inv_M hI
  have hM1 := ok.2.1
  have r1 : τ 191 1 = nI (M 1) := row 1 (by decide) (by decide)
  have e : ∀ i, 3 + 2 + i = 1 + 4 + i := fun i => by omega
  obtain ⟨a1, a2⟩ := c_str (N := N) (f := 3) (g := fun j => M (17 + 7 * j + 5)) (τ := τ) hM1 hn (fun j hj => by rw [e]; exact hs j hj 5 (by decide)) (by omega)
  obtain ⟨b1, b2⟩ := m_sum (N := N) (a := 5) (g := fun j => M (17 + 7 * j + 5)) (τ := τ) (by decide) hM1 r1 (fun j hj => row _ (by omega) (by omega)) (by omega)
  obtain ⟨d1, d2⟩ := c_saw (N := N) (f := 3) (g := fun j => M (17 + 7 * j + 6)) (τ := τ) hM1 hn (fun j hj => by rw [e]; exact hs j hj 6 (by decide)) (by omega)
  obtain ⟨e1, e2⟩ := m_sum (N := N) (a := 6) (g := fun j => M (17 + 7 * j + 6)) (τ := τ) (by decide) hM1 r1 (fun j hj => row _ (by omega) (by omega)) (by omega)
  exact ⟨a1.trans b1.symm, a2, b2, d1.trans e1.symm, d2, e2⟩
theorem st_now {c N : Nat} {τ : tw_T} (hI : Inv c τ) (hc : c < 512) (hN : 5000 ≤ N) (x1 : Int32) : p_X8_now N x1 τ ∧ p_X9_now N x1 (g_X8_now N x1 τ) ∧ f_X8_now N x1 τ = f_X9_now N x1 (g_X8_now N x1 τ) ∧ Inv (c + 1) (g_X9_now N x1 (g_X8_now N x1 τ)) := by
  obtain ⟨s1, s2, s3, s4, s5, s6⟩ := inv_sums hI hN
  obtain ⟨M, ok, row, spt, ⟨hl, hn, hs⟩, hz⟩ := inv_M hI
  have hM1 := ok.2.1
  have okl := okT_L ok
  have r1 : τ 191 1 = nI (M 1) := row 1 (by decide) (by decide)
  have h7 := inv_same7 hM1 row hs
  have fin := Inv_mono hI hc
  obtain ⟨q1, q2⟩ := fail_B hI hc
  unfold p_X8_now p_X9_now f_X9_now g_X9_now f_X8_now g_X8_now
  by_cases c0 : x1 = 0
  · simp only [c0, if_true]
    exact ⟨trivial, trivial, hl.2.2.2.2.trans (row 0 (by decide) (by decide)).symm, fin⟩
  by_cases c1 : x1 = 1
  · simp only [c0, c1, if_true, if_false]
    exact ⟨⟨s2, trivial⟩, ⟨s3, trivial⟩, s1, fin⟩
  by_cases c2 : x1 = 2
  · simp only [c0, c1, c2, if_true, if_false]
    exact ⟨⟨s5, trivial⟩, ⟨s6, trivial⟩, s4, fin⟩
  by_cases c3 : x1 = 3
  · simp only [c0, c1, c2, c3, if_true, if_false]
    obtain ⟨a1, a2, a3⟩ := l_port (N := N) (τ := τ) hM1 hn r1 h7 (fun i hi => by
      have h4 : M (17 + 7 * i + 4) < 2 := by
        have := ok.2.2 (17 + 7 * i + 4) (by omega) (by omega) (by omega)
        rw [bd_ship (by decide)] at this
        exact this
      rw [row _ (by omega) (by omega)]
      rcases (show M (17 + 7 * i + 4) = 0 ∨ M (17 + 7 * i + 4) = 1 by omega) with e | e <;> rw [e]
      · exact Or.inl rfl
      · exact Or.inr rfl) (M 1) 0 N N 0 (by omega) (by omega) (by omega)
    exact ⟨⟨a2, trivial⟩, ⟨a3, trivial⟩, a1, fin⟩
  by_cases c4 : x1 = 4
  · simp only [c0, c1, c2, c3, c4, if_true, if_false]
    obtain ⟨a1, a2, a3⟩ := l_taken (N := N) (τ := τ) hM1 hn r1 h7 (M 1) 0 N N 0 (by omega) (by omega) (by omega)
    exact ⟨⟨a2, trivial⟩, ⟨a3, trivial⟩, a1, fin⟩
  by_cases c5 : x1 = 5
  · simp only [c0, c1, c2, c3, c4, c5, if_true, if_false]
    obtain ⟨a1, a2, a3⟩ := l_near (N := N) (τ := τ) hM1 hn r1 h7 (M 1) 0 N N (-1) 24 (by omega) (by omega) (by omega)
    exact ⟨⟨a2, trivial⟩, ⟨a3, trivial⟩, a1, fin⟩
  by_cases c6 : x1 = 6
  · subst c6
    have k0 : ¬ (6 : Int32) = 0 := by decide
    have k1 : ¬ (6 : Int32) = 1 := by decide
    have k2 : ¬ (6 : Int32) = 2 := by decide
    have k3 : ¬ (6 : Int32) = 3 := by decide
    have k4 : ¬ (6 : Int32) = 4 := by decide
    have k5 : ¬ (6 : Int32) = 5 := by decide
    simp only [k0, k1, k2, k3, k4, k5, if_true, if_false]
    have e6 : τ 191 6 = nI (M 6) := row 6 (by decide) (by decide)
    obtain ⟨b1, b2⟩ := m_bits (N := N) (n := M 6) okl.2.2.2.2 (by omega) τ
    rw [hl.2.2.2.1, e6]
    exact ⟨trivial, ⟨b2, trivial⟩, (c_bits okl.2.2.2.2 τ).trans b1.symm, fin⟩
  simp only [c0, c1, c2, c3, c4, c5, c6, if_false]
  exact ⟨trivial, ⟨q1, trivial⟩, rfl, q2⟩
/-! spots -/
theorem l_spots {N : Nat} {τ : tw_T} (h : ∀ i, i < 10 → τ 13 i = τ 191 (7 + i)) {x1 : Int32} : ∀ d i fuel fuel' acc, i + d = 10 → d < fuel → d < fuel' →
    lf_X4_spotsTaken_4 N 1 fuel acc (nI i) τ = lf_X9_count_97 N fuel' x1 acc (nI i) τ ∧ lo_X4_spotsTaken_4 N 1 fuel acc (nI i) τ ∧ lo_X9_count_97 N fuel' x1 acc (nI i) τ ∧ lg_X9_count_97 N fuel' x1 acc (nI i) τ = τ := by
  intro d
  induction d with
  | zero =>
    intro i fuel fuel' acc hi hf hf'
    obtain ⟨u, rfl⟩ : ∃ u, fuel = u + 1 := ⟨fuel - 1, by omega⟩
    obtain ⟨v, rfl⟩ : ∃ v, fuel' = v + 1 := ⟨fuel' - 1, by omega⟩
    have e : i = 10 := by omega
    subst e
    rw [lf_X4_spotsTaken_4, lo_X4_spotsTaken_4, lf_X9_count_97, lo_X9_count_97, lg_X9_count_97, if_pos (by decide), if_pos (by decide), if_pos (by decide), if_pos (by decide), if_pos (by decide)]
    exact ⟨rfl, trivial, trivial, rfl⟩
  | succ d ih =>
    intro i fuel fuel' acc hi hf hf'
    obtain ⟨u, rfl⟩ : ∃ u, fuel = u + 1 := ⟨fuel - 1, by omega⟩
    obtain ⟨v, rfl⟩ : ∃ v, fuel' = v + 1 := ⟨fuel' - 1, by omega⟩
    have him : i < 10 := by omega
    have g1 : ¬ (9 : Int32) < nI i := nI_nlt (a := 9) (b := i) (by omega) (by decide)
    have g2 : ¬ (10 : Int32) ≤ nI i := nI_ge (a := i) (b := 10) him (by decide)
    have hv : vp_in (nI i) 10 := vp_in_nI him (by decide)
    have hv2 : vp_in (nI (7 + i)) 73 := vp_in_nI (by omega) (by decide)
    have e7 : (7 : Int32) + nI i = nI (7 + i) := nI_add 7 i
    rw [lf_X4_spotsTaken_4, lo_X4_spotsTaken_4, lf_X9_count_97, lo_X9_count_97, lg_X9_count_97, if_neg g1, if_neg g1, if_neg g2, if_neg g2, if_neg g2, nI_1, e7, nI_clamp (by omega), nI_clamp (by omega), show 1 + 12 = 13 from rfl, h i him]
    obtain ⟨a1, a2, a3, a4⟩ := ih (i + 1) u v (acc + 0) (by omega) (by omega) (by omega)
    obtain ⟨b1, b2, b3, b4⟩ := ih (i + 1) u v (acc + 1) (by omega) (by omega) (by omega)
    by_cases c : τ 191 (7 + i) < 0
    · have c2 : ¬ (0 : Int32) ≤ τ 191 (7 + i) := Int32.not_le.mpr c
      rw [if_pos c, if_pos c, if_neg c2, if_neg c2, if_neg c2]
      exact ⟨a1, ⟨hv, a2⟩, ⟨hv2, a3⟩, a4⟩
    · have c2 : (0 : Int32) ≤ τ 191 (7 + i) := Int32.not_lt.mp c
      rw [if_neg c, if_neg c, if_pos c2, if_pos c2, if_pos c2]
      exact ⟨b1, ⟨hv, b2⟩, ⟨hv2, b3⟩, b4⟩
theorem st_count {c N : Nat} {τ : tw_T} (hI : Inv c τ) (hc : c < 512) (hN : 5000 ≤ N) (x1 : Int32) : p_X8_count N x1 τ ∧ p_X9_count N x1 (g_X8_count N x1 τ) ∧ f_X8_count N x1 τ = f_X9_count N x1 (g_X8_count N x1 τ) ∧ Inv (c + 1) (g_X9_count N x1 (g_X8_count N x1 τ)) := by
  obtain ⟨s1, s2, s3, s4, s5, s6⟩ := inv_sums hI hN
  obtain ⟨M, ok, row, spt, ⟨hl, hn, hs⟩, hz⟩ := inv_M hI
  have fin := Inv_mono hI hc
  obtain ⟨q1, q2⟩ := fail_B hI hc
  unfold p_X8_count p_X9_count f_X9_count g_X9_count f_X8_count g_X8_count
  by_cases c0 : x1 = 0
  · simp only [c0, if_true]
    exact ⟨trivial, trivial, hl.2.2.2.2.trans (row 0 (by decide) (by decide)).symm, fin⟩
  by_cases c1 : x1 = 1
  · simp only [c0, c1, if_true, if_false]
    exact ⟨trivial, trivial, hn.trans (row 1 (by decide) (by decide)).symm, fin⟩
  by_cases c2 : x1 = 2
  · simp only [c0, c1, c2, if_true, if_false]
    exact ⟨⟨s2, trivial⟩, ⟨s3, trivial⟩, s1, fin⟩
  by_cases c3 : x1 = 3
  · simp only [c0, c1, c2, c3, if_true, if_false]
    exact ⟨⟨s5, trivial⟩, ⟨s6, trivial⟩, s4, fin⟩
  by_cases c4 : x1 = 4
  · simp only [c0, c1, c2, c3, c4, if_true, if_false]
    exact ⟨trivial, trivial, hl.2.2.2.1.trans (row 6 (by decide) (by decide)).symm, fin⟩
  by_cases c5 : x1 = 5
  · simp only [c0, c1, c2, c3, c4, c5, if_true, if_false]
    obtain ⟨n, -, a, b, -⟩ := hI.2.2.2.1
    exact ⟨trivial, trivial, b.trans a.symm, fin⟩
  by_cases c6 : x1 = 6
  · simp only [c0, c1, c2, c3, c4, c5, c6, if_true, if_false]
    exact ⟨trivial, trivial, hz.1, fin⟩
  by_cases c7 : x1 = 7
  · simp only [c0, c1, c2, c3, c4, c5, c6, c7, if_true, if_false]
    obtain ⟨a1, a2, a3, a4⟩ := l_spots (N := N) (τ := τ) (x1 := 7) hz.2 10 0 N N 0 (by omega) (by omega) (by omega)
    refine ⟨⟨a2, trivial⟩, a3, a1, ?_⟩
    show Inv (c + 1) (lg_X9_count_97 N N 7 0 (nI 0) τ)
    rw [a4]
    exact fin
  simp only [c0, c1, c2, c3, c4, c5, c6, c7, if_false]
  exact ⟨trivial, ⟨q1, trivial⟩, rfl, q2⟩
/-! findings are counted -/
theorem l_stat {N : Nat} {τ : tw_T} {x1 : Int32} : ∀ d i fuel acc, i + d = 7 → d < fuel →
    lf_X8_status_32 N fuel x1 acc (nI i) τ = (if i < 1 then acc + τ 30 0 else acc) + (if i < 2 then τ 30 1 else 0) + (if i < 3 then τ 30 2 else 0) + (if i < 4 then τ 30 3 else 0) + (if i < 5 then τ 30 4 else 0) + (if i < 6 then τ 30 5 else 0) + (if i < 7 then τ 30 6 else 0) ∧ lo_X8_status_32 N fuel x1 acc (nI i) τ ∧ lg_X8_status_32 N fuel x1 acc (nI i) τ = τ := by
  intro d
  induction d with
  | zero =>
    intro i fuel acc hi hf
    obtain ⟨u, rfl⟩ : ∃ u, fuel = u + 1 := ⟨fuel - 1, by omega⟩
    have e : i = 7 := by omega
    subst e
    have hle : (7 : Int32) ≤ nI 7 := by decide
    rw [lf_X8_status_32, lo_X8_status_32, lg_X8_status_32, if_pos hle, if_pos hle, if_pos hle]
    refine ⟨?_, trivial, rfl⟩
    simp
  | succ d ih =>
    intro i fuel acc hi hf
    obtain ⟨u, rfl⟩ : ∃ u, fuel = u + 1 := ⟨fuel - 1, by omega⟩
    have him : i < 7 := by omega
    have g2 : ¬ (7 : Int32) ≤ nI i := nI_ge (a := i) (b := 7) him (by decide)
    rw [lf_X8_status_32, lo_X8_status_32, lg_X8_status_32, if_neg g2, if_neg g2, if_neg g2, nI_1, nI_clamp (by omega)]
    obtain ⟨a1, a2, a3⟩ := ih (i + 1) u (acc + τ 30 i) (by omega) (by omega)
    refine ⟨?_, ⟨vp_in_nI him (by decide), a2⟩, a3⟩
    rw [a1]
    rcases f7 him with rfl | rfl | rfl | rfl | rfl | rfl | rfl <;> simp
theorem st_status {c N : Nat} {τ : tw_T} (hI : Inv c τ) (hc : c < 512) (hN : 5000 ≤ N) (x1 : Int32) : p_X8_status N x1 τ ∧ p_X9_status x1 (g_X8_status N x1 τ) ∧ f_X8_status N x1 τ = f_X9_status x1 (g_X8_status N x1 τ) ∧ Inv (c + 1) (g_X9_status x1 (g_X8_status N x1 τ)) := by
  have fin := Inv_mono hI hc
  obtain ⟨q1, q2⟩ := fail_B hI hc
  obtain ⟨g1, g2⟩ := hI.2.2.2.2.2.1
  unfold p_X8_status p_X9_status f_X9_status g_X9_status f_X8_status g_X8_status
  by_cases h : f_X8_within x1 (-1) 6 τ = 0
  · have h9 : ∀ τ', f_X9_within x1 (-1) 6 τ' = 0 := fun τ' => h
    simp only [h, h9, if_true]
    exact ⟨trivial, ⟨q1, trivial⟩, rfl, q2⟩
  · have h9 : ∀ τ', ¬ f_X9_within x1 (-1) 6 τ' = 0 := fun τ' => h
    simp only [h, h9, if_false]
    rw [wi8] at h
    have hlo : ¬ x1 < -1 := fun q => h (Or.inl q)
    have hhi : ¬ (6 : Int32) < x1 := fun q => h (Or.inr q)
    by_cases hn : x1 < 0
    · have e : x1 = -1 := by
        have a := Int32.lt_iff_toInt_lt.mp hn
        have b := Int32.le_iff_toInt_le.mp (Int32.not_lt.mp hlo)
        apply Int32.toInt_inj.mp
        have a' : x1.toInt < 0 := a
        have b' : -1 ≤ x1.toInt := b
        show x1.toInt = -1
        omega
      subst e
      simp only [hn, if_true]
      obtain ⟨a1, a2, a3⟩ := l_stat (N := N) (τ := τ) (x1 := -1) 7 0 N 0 (by omega) (by omega)
      have a3' : lg_X8_status_32 N N (-1) 0 0 τ = τ := a3
      rw [a3']
      refine ⟨a2, ⟨by rw [show (-1 : Int32) + 1 = nI 0 from rfl]; exact vp_in_nI (by decide) (by decide), trivial⟩, ?_, fin⟩
      have a1' : lf_X8_status_32 N N (-1) 0 0 τ = _ := a1
      rw [a1', show ((-1 : Int32) + 1).toNatClampNeg = 0 from rfl, g2]
      unfold sum7
      simp
    · have hx : ∃ j, j ≤ 6 ∧ x1 = nI j := nI_of2 (M := 6) rfl hn (Int32.not_lt.mp hhi)
      obtain ⟨j, hj, rfl⟩ := hx
      simp only [hn, if_false]
      refine ⟨⟨vp_in_nI (by omega) (by decide), trivial⟩, ⟨by rw [nI_1]; exact vp_in_nI (by omega) (by decide), trivial⟩, ?_, fin⟩
      rw [nI_1, nI_clamp (by omega), nI_clamp (by omega), g1 j (by omega)]
