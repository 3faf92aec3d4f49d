/-! ===== the calls: light, of, change, ship ===== -/
theorem tk0 (M : Nat → Nat) : tk M 0 = M := rfl
theorem sh_or (x : Int32) {m : Nat} (hm : m ≤ 8) : (∀ τ, f_X8_within x 0 (nI m - 1) τ = 0) ∨ ∃ i, i < m ∧ x = nI i ∧ ∀ τ, ¬ f_X8_within x 0 (nI m - 1) τ = 0 := by
  by_cases h0 : m = 0
  · subst h0
    left
    intro τ
    rw [wi8]
    by_cases c : x < 0
    · exact Or.inl c
    · right
      obtain ⟨j, hj, rfl⟩ := nI_of c
      rw [show (nI 0 - 1 : Int32) = -1 from rfl]
      exact Int32.lt_iff_toInt_lt.mpr (by rw [nI_toInt hj]; show (-1 : Int) < j; omega)
  · obtain ⟨k, rfl⟩ : ∃ k, m = k + 1 := ⟨m - 1, by omega⟩
    rw [nI_pred]
    by_cases c : f_X8_within x 0 (nI k) (fun _ _ => 0) = 0
    · left
      intro τ
      exact c
    · right
      obtain ⟨j, hj, rfl⟩ := w_of rfl (by omega) c
      exact ⟨j, by omega, rfl, fun τ => c⟩
theorem isShip_or {τ : tw_T} {M : Nat → Nat} (h8 : τ 3 1 = nI (M 1)) (hm : M 1 ≤ 8) (x : Int32) :
    (f_X8_isShip x τ = 0 ∧ ∀ τ' : tw_T, τ' 191 1 = nI (M 1) → f_X9_isShip x τ' = 0) ∨ ∃ i, i < M 1 ∧ x = nI i ∧ ¬ f_X8_isShip x τ = 0 ∧ ∀ τ' : tw_T, τ' 191 1 = nI (M 1) → ¬ f_X9_isShip x τ' = 0 := by
  rcases sh_or x hm with h | ⟨i, hi, hx, h⟩
  · left
    refine ⟨?_, fun τ' e => ?_⟩
    · unfold f_X8_isShip; rw [h8]; exact h _
    · unfold f_X9_isShip; rw [e]; exact h τ'
  · right
    refine ⟨i, hi, hx, ?_, fun τ' e => ?_⟩
    · unfold f_X8_isShip; rw [h8]; exact h _
    · unfold f_X9_isShip; rw [e]; exact h τ'
theorem st_light {c : Nat} {τ : tw_T} (hI : Inv c τ) (hc : c < 512) (x1 : Int32) : p_X9_light x1 (g_X8_light x1 τ) ∧ f_X8_light x1 τ = f_X9_light x1 (g_X8_light x1 τ) ∧ Inv (c + 1) (g_X9_light x1 (g_X8_light x1 τ)) := by
  have hc5 := hI.1
  obtain ⟨M, ok, row, spt, ⟨hl, hn, hs⟩, hz⟩ := inv_M hI
  have okl := okT_L ok
  obtain ⟨l0, l3, l4, l5, l6⟩ := okl
  by_cases h : f_X8_within x1 0 5 τ = 0
  · have h9 : ∀ τ', f_X9_within x1 0 5 τ' = 0 := fun τ' => h
    unfold p_X9_light f_X9_light g_X9_light f_X8_light g_X8_light
    obtain ⟨q1, q2⟩ := fail_B hI hc
    simp only [h, h9, if_true]
    exact ⟨⟨q1, trivial⟩, rfl, q2⟩
  · have h9 : ∀ τ', ¬ f_X9_within x1 0 5 τ' = 0 := fun τ' => h
    unfold p_X9_light f_X9_light g_X9_light f_X8_light g_X8_light
    simp only [h, h9, if_false]
    obtain ⟨j, hj, rfl⟩ := w_of (n := 5) rfl (by decide) h
    have hr : ∀ j, j < 4 → ∀ x, τ 2 j = x → x = τ 191 (3 + j) → p_X9_light (nI j) τ ∧ f_X2_told 2 (nI j) τ = τ 191 (3 + j) ∧ f_X9_light (nI j) τ = τ 191 (3 + j) := fun j hj x a b => by
      rcases (show j = 0 ∨ j = 1 ∨ j = 2 ∨ j = 3 by omega) with rfl | rfl | rfl | rfl <;> refine ⟨?_, ?_, rfl⟩ <;> first | exact (show vp_in _ 73 ∧ True from ⟨vp_in_nI (by decide) (by decide), trivial⟩) | exact a.trans b
    have fin := Inv_mono hI hc
    rcases (show j = 0 ∨ j = 1 ∨ j = 2 ∨ j = 3 ∨ j = 4 ∨ j = 5 by omega) with rfl | rfl | rfl | rfl | rfl | rfl
    · obtain ⟨a, b, d⟩ := hr 0 (by decide) _ hl.1 (row 3 (by decide) (by decide)).symm
      exact ⟨⟨vp_in_nI (n := 3) (by decide) (by decide), trivial⟩, b, fin⟩
    · obtain ⟨a, b, d⟩ := hr 1 (by decide) _ hl.2.1 (row 4 (by decide) (by decide)).symm
      exact ⟨⟨vp_in_nI (n := 4) (by decide) (by decide), trivial⟩, b, fin⟩
    · obtain ⟨a, b, d⟩ := hr 2 (by decide) _ hl.2.2.1 (row 5 (by decide) (by decide)).symm
      exact ⟨⟨vp_in_nI (n := 5) (by decide) (by decide), trivial⟩, b, fin⟩
    · obtain ⟨a, b, d⟩ := hr 3 (by decide) _ hl.2.2.2.1 (row 6 (by decide) (by decide)).symm
      exact ⟨⟨vp_in_nI (n := 6) (by decide) (by decide), trivial⟩, b, fin⟩
    · refine ⟨trivial, ?_, fin⟩
      show f_X2_firstAhead 2 (nI 0) τ = f_X9_firstShows τ
      rw [m_first row l3 (by omega), l_first hl l3 (by omega)]
      rfl
    · refine ⟨trivial, ?_, fin⟩
      show f_X2_secondAhead 2 (nI 0) τ = f_X9_secondShows τ
      rw [m_second row l3 l4 l5 l6 (by omega), l_second (T := 60 * c) hl ⟨l0, l3, l4, l5, l6⟩ (by omega)]
      rfl
theorem told_at {k : Nat} {τ : tw_T} {j : Nat} (h : j < 7) : f_X6_told k (nI j) τ = τ k j := by
  rcases f7 h with rfl | rfl | rfl | rfl | rfl | rfl | rfl <;> rfl
theorem st_of {c : Nat} {τ : tw_T} (hI : Inv c τ) (hc : c < 512) (x1 x2 : Int32) : p_X8_of x1 x2 τ ∧ p_X9_of x1 x2 (g_X8_of x1 x2 τ) ∧ f_X8_of x1 x2 τ = f_X9_of x1 x2 (g_X8_of x1 x2 τ) ∧ Inv (c + 1) (g_X9_of x1 x2 (g_X8_of x1 x2 τ)) := by
  have hc5 := hI.1
  obtain ⟨M, ok, row, spt, ⟨hl, hn, hs⟩, hz⟩ := inv_M hI
  have okl := okT_L ok
  have hM1 := ok.2.1
  obtain ⟨l0, l3, l4, l5, l6⟩ := okl
  have r1 : τ 191 1 = nI (M 1) := row 1 (by decide) (by decide)
  obtain ⟨q1, q2⟩ := fail_B hI hc
  have rf : (g_X8_found ((-1000001)) τ) 191 1 = nI (M 1) := by rw [found_ne (by decide)]; exact r1
  unfold p_X8_of p_X9_of f_X9_of g_X9_of f_X8_of g_X8_of
  rcases isShip_or (τ := τ) hn hM1 x1 with ⟨a, b⟩ | ⟨i, hi, rfl, a, b⟩
  · simp only [a, b _ rf, if_true]
    exact ⟨trivial, ⟨q1, trivial⟩, rfl, q2⟩
  · by_cases h : f_X8_within x2 0 8 τ = 0
    · have h9 : ∀ τ', f_X9_within x2 0 8 τ' = 0 := fun τ' => h
      simp only [a, h, h9, b _ rf, if_true, if_false]
      exact ⟨trivial, ⟨q1, trivial⟩, rfl, q2⟩
    · have h9 : ∀ τ', ¬ f_X9_within x2 0 8 τ' = 0 := fun τ' => h
      simp only [a, h, h9, b _ r1, if_false]
      obtain ⟨j, hj, rfl⟩ := w_of (n := 8) rfl (by decide) h
      have os := okT_S ok (i := i) (by omega)
      have hsh : shM (τ 191) i (shipN M i) := fun f hf => row _ (by omega) (by omega)
      have hs8 := hs i hi
      have ei : (nI i).toNatClampNeg = i := nI_clamp (by omega)
      have ek : 3 + 2 + i = 1 + 4 + i := by omega
      refine ⟨⟨vp_in_nI (by omega) (by decide), trivial⟩, ?_, ?_, Inv_mono hI hc⟩
      · by_cases d : (7 : Int32) ≤ nI j
        · rw [if_pos d]
          split
          · refine ⟨?_, trivial⟩
            unfold p_X9_goes
            simp (disch := omega) only [q_0, q_3, m_pisT, and_true, true_and, ite_self]
          · exact ⟨m_psees (by omega), trivial⟩
        · rw [if_neg d]
          have : j < 7 := by rw [q_7, nI_leI (by decide) (by omega)] at d; omega
          exact ⟨m_pis (by omega) τ, trivial⟩
      · rw [ei, ek]
        by_cases j7 : j = 7
        · subst j7
          rw [if_pos (show nI 7 = (7 : Int32) from rfl), if_pos (by decide), if_pos (show nI 7 = (7 : Int32) from rfl), hl.2.2.2.2, c_goes hs8 os (by omega), m_goes (by omega) hsh (row 0 (by decide) (by decide)) os (by omega)]
        · by_cases j8 : j = 8
          · subst j8
            rw [if_neg (show ¬ nI 8 = (7 : Int32) by decide), if_pos (show nI 8 = (8 : Int32) from rfl), if_pos (by decide), if_neg (show ¬ nI 8 = (7 : Int32) by decide), hl.2.2.2.2, show (0 : Int32) = nI 0 from rfl, l_shown (T := 60 * c) hl ⟨l0, l3, l4, l5, l6⟩ (by omega), m_shown row l3 l4 l5 l6 (by omega), c_seen hs8 os (shN_lt _) (by omega), m_sees (by omega) hsh (row 0 (by decide) (by decide)) os (shN_lt _) (by omega)]
            rfl
          · have h7 : j < 7 := by omega
            rw [if_neg (by rw [q_7, nI_eq (by omega) (by decide)]; omega), if_neg (by rw [q_8, nI_eq (by omega) (by decide)]; omega), if_neg (by rw [q_7, nI_leI (by decide) (by omega)]; omega), told_at h7, m_is (by omega), hs8 j h7, hsh j h7]
