/-! ===== the calls: go, ahead, shows ===== -/
theorem or_bit {a b : Nat} (hb : b < 2) : a * 2 ||| b = a * 2 + b := by
  have h := Nat.two_pow_add_eq_or_of_lt (i := 1) (b := b) (by omega) a
  rw [show (2 : Nat) ^ 1 = 2 from rfl, Nat.mul_comm] at h
  exact h.symm
theorem l_pass {τ : tw_T} {k T : Nat} {M : Nat → Nat} (h : litR (τ k) M) (ok : okL T M) (hb : M 0 + 1 ≤ 99999) : ∃ r, g_X2_passTick k τ = tw_sr τ k r ∧ litR r (tickN M) := by
  obtain ⟨l0, l3, l4, l5, l6⟩ := ok
  obtain ⟨h0, h1, h2, h3, h4⟩ := h
  have hf := fstN_lt (M 3) (M 0)
  have e1 : f_X2_firstAhead k 0 τ = nI (fstN (M 3) (M 0)) := l_first (n := 0) ⟨h0, h1, h2, h3, h4⟩ l3 (by omega)
  have e2 : ((τ k 3 <<< (1 &&& 31)) ||| f_X2_firstAhead k 0 τ) &&& 16777215 = nI (pastN M) := by
    rw [e1, h3, q_1, q_shl (by decide) (by omega), q_or, show (2 : Nat) ^ 1 = 2 from rfl, or_bit hf, q_pm, q_and, show (16777215 : Nat) = 2 ^ 24 - 1 from rfl, Nat.and_two_pow_sub_one_eq_mod]
    rfl
  unfold g_X2_passTick
  rw [e2, sr_self, sr_sr]
  have e3 : f_X2_tickAhead k 1 (tw_sr τ k (upd (τ k) 3 (nI (pastN M)))) = nI (M 0 + 1) := l_tick (n := 1) (M := fun j => if j = 6 then pastN M else M j) (by
    rw [sr_self]
    exact ⟨by rw [pk_un (by decide)]; exact h0, by rw [pk_un (by decide)]; exact h1, by rw [pk_un (by decide)]; exact h2, by rw [pk_us]; rfl, by rw [pk_un (by decide)]; exact h4⟩) hb
  rw [e3]
  refine ⟨_, rfl, ?_, ?_, ?_, ?_, ?_⟩
  · rw [pk_un (by decide), pk_un (by decide), tickN_lo M (by decide) (by decide) (by decide)]; exact h0
  · rw [pk_un (by decide), pk_un (by decide), tickN_lo M (by decide) (by decide) (by decide)]; exact h1
  · rw [pk_un (by decide), pk_un (by decide), tickN_lo M (by decide) (by decide) (by decide)]; exact h2
  · rw [pk_un (by decide), pk_us, tickN_6]
  · rw [pk_us, tickN_0]
theorem c_passTick {N b T : Nat} {M : Nat → Nat} {τ : tw_T} (ok : okT T M) (hT : M 0 + 1 ≤ 99999) (hN : 9 ≤ N) (h : stC τ b M) :
    stC (g_X4_passTick N b τ) b (tickN M) ∧ (∀ q, (q ≤ b ∨ b + 12 ≤ q) → g_X4_passTick N b τ q = τ q) ∧ p_X4_passTick N b τ := by
  obtain ⟨hl, hn, hs⟩ := h
  have hM1 := ok.2.1
  have okl := okT_L ok
  have e0 : f_X2_shownAhead (b + 1) 0 τ = nI (shN M) := l_shown (n := 0) hl okl (by omega)
  have et : τ (b + 1) 4 = nI (M 0) := hl.2.2.2.2
  obtain ⟨⟨f1, f2⟩, f3⟩ := c_fsail (N := N) (f := b + 2) (m := M 1) (sh := shN M) (t := M 0) (S := fun j => shipN M j) (τ := τ) hM1 (shN_lt M) (by omega) (fun j hj => okT_S ok (by omega)) hn (fun j hj => by rw [show b + 2 + 2 + j = b + 4 + j by omega]; exact hs j hj) (by omega)
  unfold g_X4_passTick p_X4_passTick
  rw [e0, et]
  generalize hG : g_X1_sail N (b + 2) (nI (shN M)) (nI (M 0)) τ = G at *
  have hlG : litR (G (b + 1)) M := by rw [f1 (b + 1) (by omega)]; exact hl
  obtain ⟨r, p1, p2⟩ := l_pass hlG okl hT
  rw [p1]
  refine ⟨⟨?_, ?_, fun i hi f hf => ?_⟩, fun q hq => ?_, f3, trivial⟩
  · rw [sr_self]; exact p2
  · rw [sr_ne (by omega), f1 (b + 2) (by omega), hn, tickN_lo M (by decide) (by decide) (by decide)]
  · have hi' : i < M 1 := by rw [tickN_lo M (by decide) (by decide) (by decide)] at hi; exact hi
    rw [sr_ne (by omega), show b + 4 + i = b + 2 + 2 + i by omega, f2 i hi' f hf]
    show _ = nI (tickN M (17 + 7 * i + f))
    rw [tickN_ship M hi' hf]
  · rw [sr_ne (by omega), f1 q (by omega)]
theorem l_go {N n T : Nat} {M : Nat → Nat} (ok : okT T M) (hT : M 0 + n ≤ 99999) (hN : 9 ≤ N) : ∀ d i fuel (τ : tw_T), i + d = n → d < fuel → stC τ 1 (tk M i) →
    lf_X8_go_43 N fuel (nI n) (nI i) τ = nI (strA (tk M n)) ∧ stC (lg_X8_go_43 N fuel (nI n) (nI i) τ) 1 (tk M n) ∧ (∀ q, (q ≤ 1 ∨ 13 ≤ q) → lg_X8_go_43 N fuel (nI n) (nI i) τ q = τ q) ∧ lo_X8_go_43 N fuel (nI n) (nI i) τ := by
  intro d
  induction d with
  | zero =>
    intro i fuel τ hi hf h
    obtain ⟨u, rfl⟩ : ∃ u, fuel = u + 1 := ⟨fuel - 1, by omega⟩
    have e : i = n := by omega
    subst e
    have okn := okT_tk ok i
    have hle : nI i ≤ nI i := nI_le (Nat.le_refl i) (by omega)
    rw [lf_X8_go_43, lg_X8_go_43, lo_X8_go_43, if_pos hle, if_pos hle, if_pos hle]
    obtain ⟨a1, a2⟩ := c_str (N := N) (f := 3) (g := fun j => tk M i (17 + 7 * j + 5)) (τ := τ) okn.2.1 h.2.1 (fun j hj => by rw [show 3 + 2 + j = 1 + 4 + j by omega]; exact h.2.2 j hj 5 (by decide)) (by have := okn.2.1; omega)
    exact ⟨a1, h, fun _ _ => rfl, a2, trivial⟩
  | succ d ih =>
    intro i fuel τ hi hf h
    obtain ⟨u, rfl⟩ : ∃ u, fuel = u + 1 := ⟨fuel - 1, by omega⟩
    have him : i < n := by omega
    have hgt := nI_ge him (show n < 2 ^ 31 by omega)
    rw [lf_X8_go_43, lg_X8_go_43, lo_X8_go_43, if_neg hgt, if_neg hgt, if_neg hgt, nI_1]
    obtain ⟨a1, a2, a3⟩ := c_passTick (N := N) (okT_tk ok i) (by rw [tk_0]; omega) hN h
    obtain ⟨b1, b2, b3, b4⟩ := ih (i + 1) u _ (by omega) (by omega) a1
    exact ⟨b1, b2, fun q hq => by rw [b3 q hq, a2 q (by omega)], a3, b4⟩
theorem w1_of {v hi : Int32} {n : Nat} {τ : tw_T} (hn : hi = nI n) (h2 : n < 2 ^ 31) (h : ¬ f_X8_within v 1 hi τ = 0) : ∃ j, 1 ≤ j ∧ j ≤ n ∧ v = nI j := by
  have h0 : ¬ f_X8_within v 0 hi τ = 0 := by
    rw [wi8] at h ⊢
    rintro (q | q)
    · exact h (Or.inl (Int32.lt_trans q (by decide)))
    · exact h (Or.inr q)
  obtain ⟨j, hj, rfl⟩ := w_of hn h2 h0
  refine ⟨j, ?_, hj, rfl⟩
  rw [wi8] at h
  rcases Nat.eq_zero_or_pos j with e | e
  · subst e
    exact absurd (Or.inl (by decide)) h
  · exact e
theorem st_go {c N : Nat} {τ : tw_T} (hI : Inv c τ) (hc : c < 512) (hN : 5000 ≤ N) (x1 : Int32) : p_X8_go N x1 τ ∧ p_X9_go N x1 (g_X8_go N x1 τ) ∧ f_X8_go N x1 τ = f_X9_go N x1 (g_X8_go N x1 τ) ∧ Inv (c + 1) (g_X9_go N x1 (g_X8_go N x1 τ)) := by
  obtain ⟨M, ok, row, spt, st, hz⟩ := inv_M hI
  have hM0 := ok.1
  unfold p_X8_go p_X9_go f_X9_go g_X9_go f_X8_go g_X8_go
  by_cases h : f_X8_within x1 1 60 τ = 0
  · obtain ⟨q1, q2⟩ := fail_B hI hc
    have h9 : ∀ τ', f_X9_within x1 1 60 τ' = 0 := fun τ' => h
    simp only [h, h9, if_true]
    exact ⟨trivial, ⟨q1, trivial⟩, rfl, q2⟩
  · have h9 : ∀ τ', ¬ f_X9_within x1 1 60 τ' = 0 := fun τ' => h
    obtain ⟨n, hn1, hn, rfl⟩ := w1_of (n := 60) rfl (by decide) h
    have et : τ 2 4 = nI (M 0) := st.1.2.2.2.2
    have e9 : τ 191 0 = nI (M 0) := row 0 (by decide) (by decide)
    have hle : nI (M 0) + nI n ≤ 99999 := by rw [nI_add, q_99999]; exact nI_le (by omega) (by decide)
    obtain ⟨a1, a2, a3, a4⟩ := l_go (N := N) (n := n) (T := 60 * c) (M := M) ok (by omega) (by omega) n 0 N τ (by omega) (by omega) st
    have a1' : lf_X8_go_43 N N (nI n) 0 τ = nI (strA (tk M n)) := a1
    have a4' : lo_X8_go_43 N N (nI n) 0 τ := a4
    have a2' : stC (lg_X8_go_43 N N (nI n) 0 τ) 1 (tk M n) := a2
    have a3' : ∀ q, (q ≤ 1 ∨ 13 ≤ q) → lg_X8_go_43 N N (nI n) 0 τ q = τ q := a3
    simp only [h, h9, et, hle, if_true, if_false]
    generalize hG : lg_X8_go_43 N N (nI n) 0 τ = G at *
    have g191 : G 191 = τ 191 := a3' 191 (by decide)
    have e9' : G 191 0 = nI (M 0) := by rw [g191]; exact e9
    simp only [e9', hle, if_true]
    obtain ⟨R, b1, b2, b3, b4⟩ := m_go (N := N) (n := n) (τ := G) ok (by omega) (by omega) (by omega) (by rw [g191]; exact row)
    obtain ⟨s1, s2⟩ := m_strA (N := N) (τ := g_X9_ticksGo N (nI n) G) (okT_tk ok n) (by rw [b1, sr_self]; exact b2) (by omega)
    refine ⟨a4', ⟨b4, s2, trivial⟩, a1'.trans s1.symm, ?_⟩
    rw [b1]
    rw [g191] at b3
    refine inv_of (M := tk M n) hI hc (fun q hq => ?_) (okT_mono (okT_tk ok n) (by omega)) ?_ ?_ ⟨?_, ?_, fun i hi => ?_⟩ ⟨?_, fun i hi => ?_⟩
    · unfold keepC at hq
      rw [sr_ne (by omega), a3' q (by omega)]
    · rw [sr_self]; exact b2
    · rw [sr_self]
      intro i hi
      rw [b3 (7 + i) (by omega), tk_lo M n (j := 1) (by decide) (by decide) (by decide)]
      exact spt i hi
    · rw [sr_ne (by decide)]; exact a2'.1
    · rw [sr_ne (by decide)]; exact a2'.2.1
    · have h1 : tk M n 1 = M 1 := tk_lo M n (by decide) (by decide) (by decide)
      have := ok.2.1
      rw [sr_ne (by omega)]; exact a2'.2.2 i hi
    · rw [sr_self, sr_ne (by decide), a3' 1 (by decide), b3 2 (by decide)]; exact hz.1
    · rw [sr_self, sr_ne (by decide), a3' (1 + 12) (by decide), b3 (7 + i) (by omega)]; exact hz.2 i hi
theorem st_ahead {c N : Nat} {τ : tw_T} (hI : Inv c τ) (hc : c < 512) (hN : 5000 ≤ N) (x1 x2 x3 : Int32) : p_X8_ahead N x1 x2 x3 τ ∧ p_X9_ahead N x1 x2 x3 (g_X8_ahead N x1 x2 x3 τ) ∧ f_X8_ahead N x1 x2 x3 τ = f_X9_ahead N x1 x2 x3 (g_X8_ahead N x1 x2 x3 τ) ∧ Inv (c + 1) (g_X9_ahead N x1 x2 x3 (g_X8_ahead N x1 x2 x3 τ)) := by
  have hc5 := hI.1
  obtain ⟨M, ok, row, spt, ⟨hl, hn, hs⟩, hz⟩ := inv_M hI
  have hM1 := ok.2.1
  have hM0 := ok.1
  have r1 : τ 191 1 = nI (M 1) := row 1 (by decide) (by decide)
  obtain ⟨q1, q2⟩ := fail_B hI hc
  have rf : (g_X8_found ((-1000001)) τ) 191 1 = nI (M 1) := by rw [found_ne (by decide)]; exact r1
  unfold p_X8_ahead p_X9_ahead f_X9_ahead g_X9_ahead f_X8_ahead g_X8_ahead
  rcases isShip_or (τ := τ) hn hM1 x1 with ⟨a, b⟩ | ⟨i, hi, rfl, a, b⟩
  · simp only [a, b _ rf, if_true, ite_self]
    exact ⟨trivial, ⟨q1, trivial⟩, rfl, q2⟩
  · have os := okT_S ok (i := i) (by omega)
    have ei : (nI i).toNatClampNeg = i := nI_clamp (by omega)
    have ek : 3 + 2 + i = 1 + 4 + i := by omega
    -- the call itself, for one of the four fields
    have key : ∀ j, j < 7 → ∀ n, n ≤ 100 → vp_in (nI i) 8 ∧ (p_X6_sailOn N 45 2 (nI n) (g_X6_take 45 (3 + 2 + i) τ)) ∧ p_X9_behind N (f_X9_shipAt (nI i) (nI j) (g_X6_sailOn N 45 2 (nI n) (g_X6_take 45 (3 + 2 + i) τ))) (nI n) (g_X6_sailOn N 45 2 (nI n) (g_X6_take 45 (3 + 2 + i) τ)) ∧ f_X6_told 45 (nI j) (g_X6_sailOn N 45 2 (nI n) (g_X6_take 45 (3 + 2 + i) τ)) = f_X9_behind N (f_X9_shipAt (nI i) (nI j) (g_X6_sailOn N 45 2 (nI n) (g_X6_take 45 (3 + 2 + i) τ))) (nI n) (g_X6_sailOn N 45 2 (nI n) (g_X6_take 45 (3 + 2 + i) τ)) ∧ Inv (c + 1) (g_X9_behind N (f_X9_shipAt (nI i) (nI j) (g_X6_sailOn N 45 2 (nI n) (g_X6_take 45 (3 + 2 + i) τ))) (nI n) (g_X6_sailOn N 45 2 (nI n) (g_X6_take 45 (3 + 2 + i) τ))) ∧ (g_X6_sailOn N 45 2 (nI n) (g_X6_take 45 (3 + 2 + i) τ)) 191 = τ 191 := by
      intro j hj n hn
      rw [ek]
      obtain ⟨r, t1, t2⟩ := c_take (τ := τ) (k := 45) (o := 1 + 4 + i) (by omega)
      rw [t1]
      obtain ⟨⟨r', s1, s2⟩, s3⟩ := c_sailOn (N := N) (k := 45) (o := 2) (n := n) (τ := tw_sr τ 45 r) (M := M) (s := shipN M i) (T := 60 * c) (by rw [sr_ne (by decide)]; exact hl) (by rw [sr_self]; intro f hf; rw [t2 f hf]; exact hs i hi f hf) (okT_L ok) os (by omega) (by decide) (by omega)
      rw [s1, sr_sr, m_at]
      have e191 : (tw_sr τ 45 r') 191 = τ 191 := sr_ne (by decide)
      obtain ⟨b1, b2, b3⟩ := m_behind (N := N) (n := n) (j := 17 + 7 * i + j) (τ := tw_sr τ 45 r') ok (by omega) (by omega) (by omega) (by rw [e191]; exact row) (by omega) (by omega)
      refine ⟨vp_in_nI (by omega) (by decide), s3, b3, ?_, ?_, e191⟩
      · rw [b1, told_at hj, sr_self, s2 j hj, tk_ship M hi n j hj]
      · rw [b2]
        refine Inv_same hI hc (fun k hk => ?_)
        unfold keepC at hk
        rw [sr_ne (by omega), sr_ne (by omega)]
    have hbn : ∀ τ', τ' 191 = τ 191 → ¬ f_X9_isShip (nI i) τ' = 0 := fun τ' e => b τ' (by rw [e]; exact r1)
    by_cases h3 : f_X8_within x3 0 100 τ = 0
    · have h39 : ∀ τ', f_X9_within x3 0 100 τ' = 0 := fun τ' => h3
      simp only [a, b _ rf, h3, h39, if_true, if_false, ite_self]
      exact ⟨trivial, ⟨q1, trivial⟩, rfl, q2⟩
    · have h39 : ∀ τ', ¬ f_X9_within x3 0 100 τ' = 0 := fun τ' => h3
      obtain ⟨n, hn', rfl⟩ := w_of (n := 100) rfl (by decide) h3
      simp only [a, h3, h39, ei, if_false]
      have good : ∀ j, j < 7 → (j = 1 ∨ j = 2 ∨ j = 5 ∨ j = 6) → x2 = nI j → _ := fun j hj _ e => key j hj n hn'
      by_cases c1 : x2 = 1
      · subst c1
        obtain ⟨k1, k2, k3, k4, k5, k6⟩ := key 1 (by decide) n hn'
        have w12 : ∀ τ', ¬ f_X9_within 1 1 2 τ' = 0 := fun τ' => by show ¬ (1 : Int32) = 0; decide
        have hh := hbn _ k6
        simp only [if_true, w12, if_false]
        rw [if_neg hh, if_neg hh, if_neg hh]
        exact ⟨⟨k1, k2, trivial⟩, ⟨k3, trivial⟩, k4, k5⟩
      by_cases c2 : x2 = 2
      · subst c2
        obtain ⟨k1, k2, k3, k4, k5, k6⟩ := key 2 (by decide) n hn'
        have w12 : ∀ τ', ¬ f_X9_within 2 1 2 τ' = 0 := fun τ' => by show ¬ (1 : Int32) = 0; decide
        have hh := hbn _ k6
        simp only [c1, if_true, w12, if_false]
        rw [if_neg hh, if_neg hh, if_neg hh]
        exact ⟨⟨k1, k2, trivial⟩, ⟨k3, trivial⟩, k4, k5⟩
      by_cases c5 : x2 = 5
      · subst c5
        obtain ⟨k1, k2, k3, k4, k5, k6⟩ := key 5 (by decide) n hn'
        have w12 : ∀ τ', f_X9_within 5 1 2 τ' = 0 := fun τ' => rfl
        have w56 : ∀ τ', ¬ f_X9_within 5 5 6 τ' = 0 := fun τ' => by show ¬ (1 : Int32) = 0; decide
        have hh := hbn _ k6
        simp only [c1, c2, if_true, w12, w56, if_false]
        rw [if_neg hh, if_neg hh, if_neg hh]
        exact ⟨⟨k1, k2, trivial⟩, ⟨k3, trivial⟩, k4, k5⟩
      by_cases c6 : x2 = 6
      · subst c6
        obtain ⟨k1, k2, k3, k4, k5, k6⟩ := key 6 (by decide) n hn'
        have w12 : ∀ τ', f_X9_within 6 1 2 τ' = 0 := fun τ' => rfl
        have w56 : ∀ τ', ¬ f_X9_within 6 5 6 τ' = 0 := fun τ' => by show ¬ (1 : Int32) = 0; decide
        have hh := hbn _ k6
        simp only [c1, c2, c5, if_true, w12, w56, if_false]
        rw [if_neg hh, if_neg hh, if_neg hh]
        exact ⟨⟨k1, k2, trivial⟩, ⟨k3, trivial⟩, k4, k5⟩
      have w12 : ∀ τ', f_X9_within x2 1 2 τ' = 0 := by
        intro τ'
        apply Classical.byContradiction
        intro q
        obtain ⟨j, j1, j2, rfl⟩ := w1_of (τ := τ') (n := 2) rfl (by decide) q
        rcases (show j = 1 ∨ j = 2 by omega) with rfl | rfl
        · exact c1 rfl
        · exact c2 rfl
      have w56 : ∀ τ', f_X9_within x2 5 6 τ' = 0 := by
        intro τ'
        apply Classical.byContradiction
        intro q
        have q0 : ¬ f_X8_within x2 0 6 τ' = 0 := by
          have q' : ¬ f_X8_within x2 5 6 τ' = 0 := q
          rw [wi8] at q' ⊢
          rintro (z | z)
          · exact q' (Or.inl (Int32.lt_trans z (by decide)))
          · exact q' (Or.inr z)
        obtain ⟨j, j2, rfl⟩ := w_of (n := 6) rfl (by decide) q0
        have q5 : 5 ≤ j := by
          apply Classical.byContradiction
          intro z
          have q' : ¬ f_X8_within (nI j) 5 6 τ' = 0 := q
          rw [wi8] at q'
          exact q' (Or.inl (nI_lt (a := j) (b := 5) (by omega) (by decide)))
        rcases (show j = 5 ∨ j = 6 by omega) with rfl | rfl
        · exact c5 rfl
        · exact c6 rfl
      simp only [c1, c2, c5, c6, w12, w56, b _ rf, if_true, if_false]
      exact ⟨trivial, ⟨q1, trivial⟩, rfl, q2⟩
theorem st_shows {c N : Nat} {τ : tw_T} (hI : Inv c τ) (hc : c < 512) (hN : 5000 ≤ N) (x1 x2 : Int32) : p_X9_shows N x1 x2 (g_X8_shows x1 x2 τ) ∧ f_X8_shows x1 x2 τ = f_X9_shows N x1 x2 (g_X8_shows x1 x2 τ) ∧ Inv (c + 1) (g_X9_shows N x1 x2 (g_X8_shows x1 x2 τ)) := by
  have hc5 := hI.1
  obtain ⟨M, ok, row, spt, ⟨hl, hn, hs⟩, hz⟩ := inv_M hI
  have hM0 := ok.1
  have okl := okT_L ok
  obtain ⟨l0, l3, l4, l5, l6⟩ := okl
  obtain ⟨q1, q2⟩ := fail_B hI hc
  unfold p_X9_shows f_X9_shows g_X9_shows f_X8_shows g_X8_shows
  by_cases h : f_X8_within x1 0 1 τ = 0
  · have h9 : ∀ τ', f_X9_within x1 0 1 τ' = 0 := fun τ' => h
    simp only [h, h9, if_true]
    exact ⟨⟨q1, trivial⟩, rfl, q2⟩
  have h9 : ∀ τ', ¬ f_X9_within x1 0 1 τ' = 0 := fun τ' => h
  by_cases h2 : f_X8_within x2 0 100 τ = 0
  · have h29 : ∀ τ', f_X9_within x2 0 100 τ' = 0 := fun τ' => h2
    simp only [h, h9, h2, h29, if_true, if_false]
    exact ⟨⟨q1, trivial⟩, rfl, q2⟩
  have h29 : ∀ τ', ¬ f_X9_within x2 0 100 τ' = 0 := fun τ' => h2
  obtain ⟨n, hn', rfl⟩ := w_of (n := 100) rfl (by decide) h2
  simp only [h, h9, h2, h29, if_false]
  obtain ⟨R, t1, t2, t3, t4, t5, t6, t7⟩ := m_think (N := N) (n := n) (τ := τ) ok (by omega) (by omega) (by omega) row
  unfold f_X9_putBack g_X9_putBack p_X9_putBack
  have okn := okT_tk ok n
  obtain ⟨k0, k3, k4, k5, k6⟩ := okT_L okn
  have rowG : rowT ((g_X9_ticksGo N (nI n) (g_X9_copyRow N 191 193 τ)) 191) (tk M n) := by rw [t1, sr_self]; exact t2
  have inv : Inv (c + 1) (g_X9_copyRow N 193 191 (g_X9_ticksGo N (nI n) (g_X9_copyRow N 191 193 τ))) := by
    rw [t6]
    refine Inv_same hI hc (fun k hk => ?_)
    unfold keepC at hk
    rw [sr_ne (by omega)]
  by_cases c0 : x1 = 0
  · simp only [c0, if_true]
    refine ⟨⟨t4, t5, ⟨t7, trivial⟩, trivial⟩, ?_, inv⟩
    rw [m_first rowG k3 (by omega), l_first hl l3 (by omega), tk_lo M n (by decide) (by decide) (by decide), tk_0]
  · simp only [c0, if_false]
    refine ⟨⟨t4, t5, ⟨t7, trivial⟩, trivial⟩, ?_, inv⟩
    rw [m_second rowG k3 k4 k5 k6 (by omega), l_second (T := 60 * c) hl ⟨l0, l3, l4, l5, l6⟩ (by omega)]
