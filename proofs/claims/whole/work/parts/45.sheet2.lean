/-! ===== the calls: write, load, judge, copy ===== -/
theorem fail_tr {c : Nat} {τ : tw_T} (hI : Inv c τ) (hc : c < 512) {F : Int32} (hF : F = -1000001 ∨ F = -1000006) : p_X9_finding F (g_X8_found F τ) ∧ Inv (c + 1) (g_X9_finding F (g_X8_found F τ)) ∧ ¬ F = 0 := by
  rcases hF with rfl | rfl
  · exact ⟨(fail_B hI hc).1, (fail_B hI hc).2, by decide⟩
  · exact ⟨(fail_M hI hc).1, (fail_M hI hc).2, by decide⟩
/-- one number of a sheet becomes v, on both sides -/
theorem num_fin {c s i : Nat} {v : Int32} {τ : tw_T} (hI : Inv c τ) (hc : c < 512) (hs : s < 4) (hi : i < 40) : Inv (c + 1) (tw_sr (tw_sr τ (182 + 2 * s + 1) (upd (τ (182 + 2 * s + 1)) i v)) 200 (upd (τ 200) (40 * s + i) v)) := by
  refine Inv_sheet hI hc (fun k h1 h2 h3 h4 h5 => by rw [sr_ne (by omega), sr_ne (by omega)]) (fun t ht => ?_)
  obtain ⟨i1, i2, i3, i4, i5⟩ := hI.2.2.2.2.1 t ht
  have e198 : (tw_sr (tw_sr τ (182 + 2 * s + 1) (upd (τ (182 + 2 * s + 1)) i v)) 200 (upd (τ 200) (40 * s + i) v)) 198 = τ 198 := by rw [sr_ne (by decide), sr_ne (by omega)]
  have e199 : (tw_sr (tw_sr τ (182 + 2 * s + 1) (upd (τ (182 + 2 * s + 1)) i v)) 200 (upd (τ 200) (40 * s + i) v)) 199 = τ 199 := by rw [sr_ne (by decide), sr_ne (by omega)]
  have et : (tw_sr (tw_sr τ (182 + 2 * s + 1) (upd (τ (182 + 2 * s + 1)) i v)) 200 (upd (τ 200) (40 * s + i) v)) (182 + 2 * t) = τ (182 + 2 * t) := by rw [sr_ne (by omega), sr_ne (by omega)]
  rw [e198, e199, et, sr_self, sr_ne (by omega)]
  refine ⟨i1, i2, i3, i4, fun j hj => ?_⟩
  by_cases e : t = s
  · subst e
    rw [sr_self]
    by_cases q : j = i
    · rw [q, pk_us, pk_us]
    · rw [pk_un q, pk_un (by omega)]
      exact i5 j hj
  · rw [sr_ne (by omega), pk_un (by omega)]
    exact i5 j hj
theorem w_size {n : Nat} (hn : n ≤ 40) {x : Int32} : (∀ τ, f_X8_within x 0 (nI n - 1) τ = 0) ∨ ∃ i, i < n ∧ x = nI i ∧ ∀ τ, ¬ f_X8_within x 0 (nI n - 1) τ = 0 := by
  by_cases h0 : n = 0
  · subst h0
    left
    intro τ
    rw [wi8]
    by_cases c : x < 0
    · exact Or.inl c
    · right
      obtain ⟨j, hj, rfl⟩ := nI_of c
      rw [show (nI 0 - 1 : Int32) = -1 from rfl]
      exact Int32.lt_iff_toInt_lt.mpr (by rw [nI_toInt hj]; show (-1 : Int) < j; omega)
  · obtain ⟨k, rfl⟩ : ∃ k, n = k + 1 := ⟨n - 1, by omega⟩
    rw [nI_pred]
    by_cases c : f_X8_within x 0 (nI k) (fun _ _ => 0) = 0
    · left
      intro τ
      exact c
    · right
      obtain ⟨j, hj, rfl⟩ := w_of rfl (by omega) c
      exact ⟨j, by omega, rfl, fun τ => c⟩
theorem st_write {c : Nat} {τ : tw_T} (hI : Inv c τ) (hc : c < 512) (x1 x2 x3 : Int32) : p_X8_write x1 x2 x3 τ ∧ p_X9_write x1 x2 x3 (g_X8_write x1 x2 x3 τ) ∧ f_X8_write x1 x2 x3 τ = f_X9_write x1 x2 x3 (g_X8_write x1 x2 x3 τ) ∧ Inv (c + 1) (g_X9_write x1 x2 x3 (g_X8_write x1 x2 x3 τ)) := by
  unfold p_X8_write p_X9_write f_X9_write g_X9_write f_X8_write g_X8_write
  rcases trouble_or hI x1 with ⟨t1, t2, t3⟩ | ⟨s, hs, rfl, t1, t2, t3, t4⟩ | ⟨s, hs, rfl, t1, t2, t3, t4⟩
  · obtain ⟨q1, q2, q3⟩ := fail_tr hI hc (F := -1000001) (Or.inl rfl)
    simp only [t1, q3, t3, if_true, if_false]
    exact ⟨⟨t2, trivial⟩, ⟨q1, trivial⟩, rfl, q2⟩
  · obtain ⟨q1, q2, q3⟩ := fail_tr hI hc (F := -1000006) (Or.inr rfl)
    have es : (nI s).toNatClampNeg = s := nI_clamp (by omega)
    have z : (g_X8_found (-1000006) τ) 198 s = 0 := by rw [found_ne (by decide)]; exact t3
    simp only [t1, q3, t4, es, z, if_true, if_false]
    exact ⟨⟨t2, trivial⟩, ⟨vp_in_nI hs (by decide), q1, trivial⟩, rfl, q2⟩
  · obtain ⟨i1, i2, i3, ⟨n, hn, i4⟩, i5⟩ := hI.2.2.2.2.1 s hs
    have es : (nI s).toNatClampNeg = s := nI_clamp (by omega)
    have hv : vp_in (nI s) 4 := vp_in_nI hs (by decide)
    simp only [t1, t4, es, i2, i4, if_true, if_false]
    rcases w_size hn (x := x2) with w | ⟨i, hi, rfl, w⟩
    · obtain ⟨q1, q2⟩ := fail_B hI hc
      have z1 : (g_X8_found (-1000001) τ) 198 s = τ 198 s := by rw [found_ne (by decide)]
      have z2 : (g_X8_found (-1000001) τ) 199 s = nI n := by rw [found_ne (by decide)]; exact i4
      have w9 : ∀ τ', f_X9_within x2 0 (nI n - 1) τ' = 0 := fun τ' => w τ'
      simp only [w, z1, z2, t3, w9, if_true, if_false]
      exact ⟨⟨t2, hv, trivial⟩, ⟨hv, hv, q1, trivial⟩, rfl, q2⟩
    · have w9 : ∀ τ', ¬ f_X9_within (nI i) 0 (nI n - 1) τ' = 0 := fun τ' => w τ'
      have ei : (nI i).toNatClampNeg = i := nI_clamp (by omega)
      have e40 : (40 : Int32) * nI s + nI i = nI (40 * s + i) := by rw [show (40 : Int32) = nI 40 from rfl, pk_mul, nI_add]
      have e40' : (nI (40 * s + i)).toNatClampNeg = 40 * s + i := nI_clamp (by omega)
      have hput : g_X5_put (182 + 2 * s) (nI i) x3 τ = tw_sr τ (182 + 2 * s + 1) (upd (τ (182 + 2 * s + 1)) i (f_X9_cutTo x3 (τ 198 s) τ)) ∧ p_X5_put (182 + 2 * s) (nI i) x3 τ := by
        unfold g_X5_put p_X5_put f_X9_cutTo
        rw [i1, ei]
        have hvi : vp_in (nI i) 40 := vp_in_nI (by omega) (by decide)
        by_cases c8 : τ 198 s = 8
        · rw [if_pos c8, if_pos c8, if_pos c8]; exact ⟨rfl, hvi, trivial⟩
        · rw [if_neg c8, if_neg c8, if_neg c8]
          by_cases c16 : τ 198 s = 16
          · rw [if_pos c16, if_pos c16, if_pos c16]; exact ⟨rfl, hvi, trivial⟩
          · rw [if_neg c16, if_neg c16, if_neg c16]; exact ⟨rfl, hvi, trivial⟩
      obtain ⟨g1, g2⟩ := hput
      simp only [w, if_false, g1]
      have z1 : (tw_sr τ (182 + 2 * s + 1) (upd (τ (182 + 2 * s + 1)) i (f_X9_cutTo x3 (τ 198 s) τ))) 198 = τ 198 := sr_ne (by omega)
      have z2 : (tw_sr τ (182 + 2 * s + 1) (upd (τ (182 + 2 * s + 1)) i (f_X9_cutTo x3 (τ 198 s) τ))) 199 = τ 199 := sr_ne (by omega)
      have z3 : (tw_sr τ (182 + 2 * s + 1) (upd (τ (182 + 2 * s + 1)) i (f_X9_cutTo x3 (τ 198 s) τ))) 200 = τ 200 := sr_ne (by omega)
      rw [z1, z2, z3, i4]
      simp only [t3, w9, e40, e40', if_false]
      refine ⟨⟨t2, hv, hv, g2, trivial⟩, ⟨hv, hv, hv, vp_in_nI (by omega) (by decide), trivial⟩, trivial, ?_⟩
      exact num_fin hI hc hs (by omega)
theorem l_judge {N s n m : Nat} {x2 : Int32} {τ : tw_T} (hs : s < 4) (hn : n ≤ 40) (hm : m ≤ 8) (h1 : τ (182 + 2 * s) 2 = nI n) (h2 : τ 199 s = nI n) (h3 : ∀ j, j < 40 → τ (182 + 2 * s + 1) j = τ 200 (40 * s + j)) (h8 : τ 3 1 = nI m) (h9 : τ 191 1 = nI m) (hsame : same7 τ 3 m) : ∀ d i fuel fuel', i + d = n → d < fuel → d < fuel' →
    lf_X8_judge_18 N fuel (nI s) x2 (nI i) τ = lf_X9_judge_22 N fuel' (nI s) (nI i) τ ∧ lo_X8_judge_18 N fuel (nI s) x2 (nI i) τ ∧ lo_X9_judge_22 N fuel' (nI s) (nI i) τ ∧ lg_X8_judge_18 N fuel (nI s) x2 (nI i) τ = τ ∧ lg_X9_judge_22 N fuel' (nI s) (nI i) τ = τ := by
  have es : (nI s).toNatClampNeg = s := nI_clamp (by omega)
  have hv : vp_in (nI s) 4 := vp_in_nI hs (by decide)
  intro d
  induction d with
  | zero =>
    intro i fuel fuel' hi hf hf'
    obtain ⟨u, rfl⟩ : ∃ u, fuel = u + 1 := ⟨fuel - 1, by omega⟩
    obtain ⟨v, rfl⟩ : ∃ v, fuel' = v + 1 := ⟨fuel' - 1, by omega⟩
    have e : i = n := by omega
    subst e
    have hle : nI i ≤ nI i := nI_le (Nat.le_refl i) (by omega)
    rw [lf_X8_judge_18, lo_X8_judge_18, lg_X8_judge_18, lf_X9_judge_22, lo_X9_judge_22, lg_X9_judge_22, es, h1, h2]
    simp only [hle, if_true]
    exact ⟨trivial, ⟨hv, trivial⟩, ⟨hv, hv, trivial⟩, trivial, trivial⟩
  | succ d ih =>
    intro i fuel fuel' hi hf hf'
    obtain ⟨u, rfl⟩ : ∃ u, fuel = u + 1 := ⟨fuel - 1, by omega⟩
    obtain ⟨v, rfl⟩ : ∃ v, fuel' = v + 1 := ⟨fuel' - 1, by omega⟩
    have him : i < n := by omega
    have hgt := nI_ge him (show n < 2 ^ 31 by omega)
    have hne : ¬ nI i = nI n := fun q => by have := (nI_eq (by omega) (by omega)).mp q; omega
    have ei : (nI i).toNatClampNeg = i := nI_clamp (by omega)
    have e40 : (40 : Int32) * nI s + nI i = nI (40 * s + i) := by rw [show (40 : Int32) = nI 40 from rfl, pk_mul, nI_add]
    have e40' : (nI (40 * s + i)).toNatClampNeg = 40 * s + i := nI_clamp (by omega)
    rw [lf_X8_judge_18, lo_X8_judge_18, lg_X8_judge_18, lf_X9_judge_22, lo_X9_judge_22, lg_X9_judge_22, es, h1, h2, ei, nI_1, e40, e40', h3 i (by omega)]
    simp only [hgt, hne, if_false]
    obtain ⟨a1, a2, a3, a4, a5⟩ := ih (i + 1) u v (by omega) (by omega) (by omega)
    by_cases c : f_X8_isShip (nI i) τ = 0
    · have c9 : f_X9_isShip (nI i) τ = 0 := by
        unfold f_X8_isShip at c
        unfold f_X9_isShip
        rw [h8] at c
        rw [h9]
        exact c
      simp only [c, c9, if_true]
      exact ⟨trivial, ⟨hv, trivial⟩, ⟨hv, hv, trivial⟩, trivial, trivial⟩
    · have c9 : ¬ f_X9_isShip (nI i) τ = 0 := by
        unfold f_X8_isShip at c
        unfold f_X9_isShip
        rw [h8] at c
        rw [h9]
        exact c
      have hi8 : i < m := by
        rcases sh_or (nI i) hm with z | ⟨k, hk, e, _⟩
        · unfold f_X8_isShip at c
          rw [h8] at c
          exact absurd (z τ) c
        · have := (nI_eq (by omega) (by omega)).mp e
          omega
      have e1 : f_X9_shipIs (nI i) 1 τ = τ 191 (17 + 7 * i + 1) := m_is (f := 1) (by omega) τ
      have hp1 : p_X9_shipIs (nI i) 1 τ := m_pis (f := 1) (by omega) τ
      rw [hsame i hi8 1 (by decide), e1]
      simp only [c, c9, if_false]
      have hvi : vp_in (nI i) 8 := vp_in_nI (by omega) (by decide)
      have hvj : vp_in (nI i) 40 := vp_in_nI (by omega) (by decide)
      have hvk : vp_in (nI (40 * s + i)) 160 := vp_in_nI (by omega) (by decide)
      by_cases q : τ 191 (17 + 7 * i + 1) = τ 200 (40 * s + i)
      · have q' : τ 200 (40 * s + i) = τ 191 (17 + 7 * i + 1) := q.symm
        rw [if_pos q, if_pos q, if_pos q, if_pos q', if_pos q', if_pos q']
        exact ⟨a1, ⟨hv, hvi, hv, hvj, a2⟩, ⟨hv, hvk, hp1, a3⟩, a4, a5⟩
      · have q' : ¬ τ 200 (40 * s + i) = τ 191 (17 + 7 * i + 1) := fun z => q z.symm
        rw [if_neg q, if_neg q, if_neg q, if_neg q', if_neg q', if_neg q']
        exact ⟨rfl, ⟨hv, hvi, hv, hvj, trivial⟩, ⟨hv, hvk, hp1, hv, trivial⟩, rfl, rfl⟩
theorem st_judge {c N : Nat} {τ : tw_T} (hI : Inv c τ) (hc : c < 512) (hN : 5000 ≤ N) (x1 : Int32) : p_X8_judge N x1 τ ∧ p_X9_judge N x1 (g_X8_judge N x1 τ) ∧ f_X8_judge N x1 τ = f_X9_judge N x1 (g_X8_judge N x1 τ) ∧ Inv (c + 1) (g_X9_judge N x1 (g_X8_judge N x1 τ)) := by
  unfold p_X8_judge p_X9_judge f_X9_judge g_X9_judge f_X8_judge g_X8_judge
  rcases trouble_or hI x1 with ⟨t1, t2, t3⟩ | ⟨s, hs, rfl, t1, t2, t3, t4⟩ | ⟨s, hs, rfl, t1, t2, t3, t4⟩
  · obtain ⟨q1, q2, q3⟩ := fail_tr hI hc (F := -1000001) (Or.inl rfl)
    obtain ⟨l1, l2⟩ := lacks_B (x2 := 1) (t3 (g_X8_found (-1000001) τ))
    simp only [t1, q3, l1, if_false]
    exact ⟨⟨t2, trivial⟩, ⟨l2, l2, q1, trivial⟩, rfl, q2⟩
  · obtain ⟨q1, q2, q3⟩ := fail_tr hI hc (F := -1000006) (Or.inr rfl)
    obtain ⟨l1, l2⟩ := lacks_M (x2 := 1) hs (t4 (g_X8_found (-1000006) τ)) (by rw [found_ne (by decide)]; exact t3)
    simp only [t1, q3, l1, if_false]
    exact ⟨⟨t2, trivial⟩, ⟨l2, l2, q1, trivial⟩, rfl, q2⟩
  · obtain ⟨M, ok, row, spt, ⟨hl, hn, hsh⟩, hz⟩ := inv_M hI
    have hM1 := ok.2.1
    have r1 : τ 191 1 = nI (M 1) := row 1 (by decide) (by decide)
    obtain ⟨i1, i2, i3, ⟨n, hn', i4⟩, i5⟩ := hI.2.2.2.2.1 s hs
    obtain ⟨l1, l2⟩ := lacks_0 (x2 := 1) hs (t4 τ) t3 (by decide)
    obtain ⟨a1, a2, a3, a4, a5⟩ := l_judge (N := N) (s := s) (n := n) (x2 := 0) (τ := τ) hs hn' hM1 (i2.trans i4) i4 i5 hn r1 (inv_same7 hM1 row hsh) n 0 N N (by omega) (by omega) (by omega)
    have a4' : lg_X8_judge_18 N N (nI s) 0 0 τ = τ := a4
    have a5' : lg_X9_judge_22 N N (nI s) 0 τ = τ := a5
    simp only [t1, if_true, a4', l1, a5']
    exact ⟨⟨t2, a2⟩, ⟨l2, a3⟩, a1, Inv_mono hI hc⟩
