/-! ===== a new ship ===== -/
def newS (kind cell : Nat) : Nat → Nat := fun f => if f = 0 then kind else if f = 1 then cell else if f = 2 then 1 else if f = 3 then 1 else 0
/-- the fields of a new ship -/
def newI (x1 x2 : Int32) : Nat → Int32 := fun f => if f = 0 then x1 else if f = 1 then x2 else if f = 2 then 1 else if f = 3 then 1 else 0
theorem c_renew (τ : tw_T) (k : Nat) (x1 x2 : Int32) : ∃ r, g_X6_renew k x1 x2 τ = tw_sr τ k r ∧ ∀ f, f < 7 → r f = newI x1 x2 f := by
  unfold g_X6_renew
  simp (disch := omega) only [sr_self, sr_sr]
  refine ⟨_, rfl, fun f hf => ?_⟩
  rcases f7 hf with rfl | rfl | rfl | rfl | rfl | rfl | rfl <;> rfl
theorem c_launch {τ : tw_T} {f m : Nat} {x1 x2 : Int32} (h : τ f 1 = nI m) (hm : m < 8) : ∃ r, g_X1_launch f x1 x2 τ = tw_sr (tw_sr τ (f + 2 + m) r) f (upd (τ f) 1 (nI (m + 1))) ∧ (∀ a, a < 7 → r a = newI x1 x2 a) ∧ f_X1_isFull f τ = 0 ∧ p_X1_launch f x1 x2 τ := by
  have h8 : f_X1_isFull f τ = 0 := by
    unfold f_X1_isFull
    rw [h, q_8, if_pos (nI_lt hm (by decide))]
  obtain ⟨r, h1, h2⟩ := c_renew τ (f + 2 + m) x1 x2
  refine ⟨r, ?_, h2, h8, ?_⟩
  · unfold g_X1_launch
    rw [if_pos h8, h, nI_clamp (by omega), h1, sr_ne (by omega), h, nI_1]
  · unfold p_X1_launch
    rw [if_pos h8, h]
    exact ⟨vp_in_nI hm (by decide), trivial⟩
set_option maxHeartbeats 2000000 in
theorem m_comesFin {τ : tw_T} {i N fuel : Nat} {x1 x2 : Int32} (hi : i < 8) (h1 : τ 191 1 = nI i) (hf : 0 < fuel) :
    (∃ R, lg_X9_comes_10 N fuel x1 x2 (nI i) (nI 7) τ = tw_sr τ 191 R ∧ R 1 = nI (i + 1) ∧ R (17 + 7 * i) = x1 ∧ R (17 + 7 * i + 1) = x2 ∧ R (17 + 7 * i + 2) = 1 ∧ R (17 + 7 * i + 3) = 1 ∧ ∀ j, j ≠ 1 → (j < 17 + 7 * i ∨ 17 + 7 * i + 3 < j) → R j = τ 191 j) ∧ lf_X9_comes_10 N fuel x1 x2 (nI i) (nI 7) τ = nI i ∧ lo_X9_comes_10 N fuel x1 x2 (nI i) (nI 7) τ := by
  obtain ⟨u, rfl⟩ : ∃ u, fuel = u + 1 := ⟨fuel - 1, by omega⟩
  have h7 : (7 : Int32) ≤ nI 7 := by decide
  have vp := fun f (hf : f < 7) (τ : tw_T) => m_vp (i := i) (f := f) (by omega) τ
  rw [lg_X9_comes_10, lf_X9_comes_10, lo_X9_comes_10, if_pos h7, if_pos h7, if_pos h7]
  refine ⟨?_, rfl, ?_⟩
  · simp (disch := omega) only [q_0, q_1, q_2, q_3, m_at', sr_self, sr_sr, pk_us, pk_un, h1, nI_add]
    refine ⟨_, rfl, ?_, ?_, ?_, ?_, ?_, fun j a b => ?_⟩
    · rw [pk_us]
    · simp (disch := omega) only [pk_us, pk_un, Nat.add_zero]
    · simp (disch := omega) only [pk_us, pk_un]
    · simp (disch := omega) only [pk_us, pk_un]
    · simp (disch := omega) only [pk_us, pk_un]
    · rw [pk_un a, pk_un (by omega), pk_un (by omega), pk_un (by omega), pk_un (by omega)]
  · simp (disch := omega) only [q_0, q_1, q_2, q_3, m_vp, and_true, true_and]
theorem ml_comes {i N : Nat} {x1 x2 : Int32} (hi : i < 8) : ∀ d a fuel (τ : tw_T), a + d = 7 → d < fuel → τ 191 1 = nI i →
    (∃ R, lg_X9_comes_10 N fuel x1 x2 (nI i) (nI a) τ = tw_sr τ 191 R ∧ R 1 = nI (i + 1) ∧ R (17 + 7 * i) = x1 ∧ R (17 + 7 * i + 1) = x2 ∧ R (17 + 7 * i + 2) = 1 ∧ R (17 + 7 * i + 3) = 1 ∧ (∀ b, 4 ≤ b → a ≤ b → b < 7 → R (17 + 7 * i + b) = 0) ∧ ∀ j, j ≠ 1 → (j < 17 + 7 * i ∨ (17 + 7 * i + 3 < j ∧ j < 17 + 7 * i + a) ∨ 24 + 7 * i ≤ j) → R j = τ 191 j) ∧ lf_X9_comes_10 N fuel x1 x2 (nI i) (nI a) τ = nI i ∧ lo_X9_comes_10 N fuel x1 x2 (nI i) (nI a) τ := by
  intro d
  induction d with
  | zero =>
    intro a fuel τ ha hf h1
    have e : a = 7 := by omega
    subst e
    obtain ⟨⟨R, r1, r2, r3, r4, r5, r6, r7⟩, b, g⟩ := m_comesFin (N := N) (x1 := x1) (x2 := x2) hi h1 hf
    exact ⟨⟨R, r1, r2, r3, r4, r5, r6, fun b x y z => absurd z (by omega), fun j x y => r7 j x (by omega)⟩, b, g⟩
  | succ d ih =>
    intro a fuel τ ha hf h1
    obtain ⟨u, rfl⟩ : ∃ u, fuel = u + 1 := ⟨fuel - 1, by omega⟩
    have ha7 : a < 7 := by omega
    have h7 : ¬ (7 : Int32) ≤ nI a := nI_ge (a := a) (b := 7) ha7 (by decide)
    rw [lg_X9_comes_10, lf_X9_comes_10, lo_X9_comes_10, if_neg h7, if_neg h7, if_neg h7, nI_1, m_at' i a (by omega)]
    obtain ⟨⟨R, r1, r2, r3, r4, r5, r6, r8, r7⟩, b, g⟩ := ih (a + 1) u (tw_sr τ 191 (upd (τ 191) (17 + 7 * i + a) 0)) (by omega) (by omega) (by rw [sr_self, pk_un (by omega)]; exact h1)
    refine ⟨⟨R, by rw [r1, sr_sr], r2, r3, r4, r5, r6, fun w x y z => ?_, fun j x y => ?_⟩, b, by rw [m_at]; exact vp_in_nI (by omega) (by decide), g⟩
    · by_cases c : w = a
      · rw [c, r7 (17 + 7 * i + a) (by omega) (by omega), sr_self, pk_us]
      · exact r8 w x (by omega) z
    · rw [r7 j x (by omega), sr_self, pk_un (by omega)]
theorem m_comes {i N : Nat} {x1 x2 : Int32} {τ : tw_T} (hi : i < 8) (h1 : τ 191 1 = nI i) (hN : 8 ≤ N) :
    (∃ R, g_X9_comes N x1 x2 τ = tw_sr τ 191 R ∧ R 1 = nI (i + 1) ∧ (∀ a, a < 7 → R (17 + 7 * i + a) = newI x1 x2 a) ∧ ∀ j, j ≠ 1 → (j < 17 + 7 * i ∨ 24 + 7 * i ≤ j) → R j = τ 191 j) ∧ f_X9_comes N x1 x2 τ = nI i ∧ p_X9_comes N x1 x2 τ := by
  unfold g_X9_comes f_X9_comes p_X9_comes
  rw [h1]
  obtain ⟨⟨R, r1, r2, r3, r4, r5, r6, r8, r7⟩, b, g⟩ := ml_comes (N := N) (x1 := x1) (x2 := x2) hi 7 0 N τ (by omega) (by omega) h1
  refine ⟨⟨R, r1, r2, fun a ha => ?_, fun j x y => r7 j x (by omega)⟩, b, g⟩
  rcases f7 ha with rfl | rfl | rfl | rfl | rfl | rfl | rfl
  · exact r3
  · exact r4
  · exact r5
  · exact r6
  · exact r8 4 (by decide) (by decide) (by decide)
  · exact r8 5 (by decide) (by decide) (by decide)
  · exact r8 6 (by decide) (by decide) (by decide)
/-- the sea with one ship more -/
def plusN (M : Nat → Nat) (kind cell : Nat) : Nat → Nat := fun j => if j = 1 then M 1 + 1 else if 17 + 7 * M 1 ≤ j ∧ j < 24 + 7 * M 1 then newS kind cell (j - (17 + 7 * M 1)) else M j
theorem newI_n (k x a : Nat) : newI (nI k) (nI x) a = nI (newS k x a) := by
  unfold newI newS
  repeat' split
  all_goals rfl
theorem plusN_lo (M : Nat → Nat) (k x : Nat) {j : Nat} (h1 : j ≠ 1) (h : j < 17 + 7 * M 1 ∨ 24 + 7 * M 1 ≤ j) : plusN M k x j = M j := by
  unfold plusN
  rw [if_neg h1, if_neg (by omega)]
theorem plusN_in (M : Nat → Nat) (k x : Nat) {a : Nat} (h : a < 7) : plusN M k x (17 + 7 * M 1 + a) = newS k x a := by
  unfold plusN
  rw [if_neg (by omega), if_pos (by omega), show 17 + 7 * M 1 + a - (17 + 7 * M 1) = a by omega]
theorem okT_plus {T k x : Nat} {M : Nat → Nat} (h : okT T M) (hm : M 1 < 8) (hk : k < 7) (hx : x < 24) : okT T (plusN M k x) := by
  refine ⟨?_, ?_, fun j a b d => ?_⟩
  · rw [plusN_lo M k x (by decide) (by omega)]; exact h.1
  · show (if 1 = 1 then M 1 + 1 else _) ≤ 8
    rw [if_pos rfl]
    omega
  · by_cases c : 17 + 7 * M 1 ≤ j ∧ j < 24 + 7 * M 1
    · obtain ⟨f, rfl⟩ : ∃ f, j = 17 + 7 * M 1 + f := ⟨j - (17 + 7 * M 1), by omega⟩
      have hf : f < 7 := by omega
      rw [plusN_in M k x hf, bd_ship hf]
      rcases f7 hf with rfl | rfl | rfl | rfl | rfl | rfl | rfl
      · exact hk
      · exact hx
      · exact (by decide : 1 < 2)
      · exact (by decide : 1 < 6)
      · exact (by decide : 0 < 2)
      · exact (by decide : 0 < 10000)
      · exact (by decide : 0 < 10000)
    · rw [plusN_lo M k x (by omega) (by omega)]
      exact h.2.2 j a b d
theorem st_ship {c N : Nat} {τ : tw_T} (hI : Inv c τ) (hc : c < 512) (hN : 5000 ≤ N) (x1 x2 : Int32) : p_X8_ship x1 x2 τ ∧ p_X9_ship N x1 x2 (g_X8_ship x1 x2 τ) ∧ f_X8_ship x1 x2 τ = f_X9_ship N x1 x2 (g_X8_ship x1 x2 τ) ∧ Inv (c + 1) (g_X9_ship N x1 x2 (g_X8_ship x1 x2 τ)) := by
  obtain ⟨M, ok, row, spt, ⟨hl, hn, hs⟩, hz⟩ := inv_M hI
  have hM1 := ok.2.1
  have r1 : τ 191 1 = nI (M 1) := row 1 (by decide) (by decide)
  unfold p_X8_ship p_X9_ship f_X9_ship g_X9_ship f_X8_ship g_X8_ship
  by_cases h : f_X8_within x1 0 6 τ = 0
  · obtain ⟨q1, q2⟩ := fail_B hI hc
    have h9 : ∀ τ', f_X9_isKind x1 τ' = 0 := fun τ' => h
    simp only [h, h9, if_true]
    exact ⟨trivial, ⟨q1, trivial⟩, rfl, q2⟩
  have h9 : ∀ τ', ¬ f_X9_isKind x1 τ' = 0 := fun τ' => h
  by_cases g : f_X8_within x2 0 23 τ = 0
  · obtain ⟨q1, q2⟩ := fail_B hI hc
    have g9 : ∀ τ', f_X9_isCell x2 τ' = 0 := fun τ' => g
    simp only [h, h9, g, g9, if_true, if_false]
    exact ⟨trivial, ⟨q1, trivial⟩, rfl, q2⟩
  have g9 : ∀ τ', ¬ f_X9_isCell x2 τ' = 0 := fun τ' => g
  by_cases hm : M 1 = 8
  · obtain ⟨q1, q2⟩ := fail_F hI hc
    have hfull : ¬ f_X1_isFull 3 τ = 0 := by
      unfold f_X1_isFull
      rw [hn, hm]
      decide
    have rf : (g_X8_found ((-1000002)) τ) 191 1 = 8 := by rw [found_ne (by decide), r1, hm]; rfl
    simp only [h, h9, g, g9, hfull, rf, if_true, if_false]
    exact ⟨trivial, ⟨q1, trivial⟩, rfl, q2⟩
  · obtain ⟨k, hk, rfl⟩ := w_of (n := 6) rfl (by decide) h
    obtain ⟨x, hx, rfl⟩ := w_of (n := 23) rfl (by decide) g
    obtain ⟨r, l1, l2, l3, l4⟩ := c_launch (τ := τ) (f := 3) (x1 := nI k) (x2 := nI x) hn (by omega)
    have ne8 : ¬ nI (M 1) = 8 := by rw [q_8, nI_eq (by omega) (by decide)]; exact hm
    have e2 : 3 + 2 + M 1 = 1 + 4 + M 1 := by omega
    rw [e2] at l1
    have t191 : (g_X1_launch 3 (nI k) (nI x) τ) 191 = τ 191 := by rw [l1, sr_ne (by decide), sr_ne (by omega)]
    obtain ⟨⟨R, c1, c2, c3, c4⟩, c5, c6⟩ := m_comes (N := N) (x1 := nI k) (x2 := nI x) (τ := g_X1_launch 3 (nI k) (nI x) τ) (i := M 1) (by omega) (by rw [t191]; exact r1) (by omega)
    simp only [h, h9, g, g9, l3, t191, r1, ne8, if_true, if_false]
    refine ⟨⟨l4, trivial⟩, ⟨c6, trivial⟩, ?_, ?_⟩
    · rw [c5, l1, sr_self, pk_us, nI_pred]
    · rw [c1, l1]
      refine inv_of (M := plusN M k x) hI hc (fun q hq => ?_) ?_ ?_ ?_ ⟨?_, ?_, fun i hi f hf => ?_⟩ ⟨?_, fun i hi => ?_⟩
      · unfold keepC at hq
        rw [sr_ne (by omega), sr_ne (by omega), sr_ne (by omega)]
      · exact okT_mono (okT_plus ok (by omega) (by omega) (by omega)) (by omega)
      · intro j a b
        rw [sr_self]
        by_cases j1 : j = 1
        · subst j1; exact c2
        · by_cases q : 17 + 7 * M 1 ≤ j ∧ j < 24 + 7 * M 1
          · obtain ⟨f, rfl⟩ : ∃ f, j = 17 + 7 * M 1 + f := ⟨j - (17 + 7 * M 1), by omega⟩
            rw [c3 f (by omega), plusN_in M k x (by omega), newI_n]
          · rw [c4 j j1 (by omega), t191, plusN_lo M k x j1 (by omega)]
            exact row j a b
      · intro i hi
        rw [sr_self, c4 (7 + i) (by omega) (by omega), t191]
        rcases spt i hi with q | ⟨w, w1, w2⟩
        · exact Or.inl q
        · exact Or.inr ⟨w, Nat.lt_succ_of_lt w1, w2⟩
      · have e : ∀ j, j < 7 → j ≠ 1 → plusN M k x j = M j := fun j a b => plusN_lo M k x b (by omega)
        unfold litR
        rw [e 3 (by decide) (by decide), e 4 (by decide) (by decide), e 5 (by decide) (by decide), e 6 (by decide) (by decide), e 0 (by decide) (by decide)]
        rw [sr_ne (by decide), sr_ne (by decide), sr_ne (by omega)]
        exact hl
      · rw [sr_ne (by decide), sr_self, pk_us]
        rfl
      · have hi' : i < M 1 + 1 := hi
        show _ = nI (plusN M k x (17 + 7 * i + f))
        rw [sr_ne (by omega), sr_ne (by omega)]
        by_cases q : i = M 1
        · subst q
          rw [sr_self, l2 f hf, plusN_in M k x hf, newI_n]
        · rw [sr_ne (by omega), plusN_lo M k x (by omega) (by omega)]
          exact hs i (by omega) f hf
      · rw [sr_self, sr_ne (by decide), sr_ne (by decide), sr_ne (by omega), c4 2 (by decide) (by omega), t191]
        exact hz.1
      · rw [sr_self, sr_ne (by decide), sr_ne (by decide), sr_ne (by omega), c4 (7 + i) (by omega) (by omega), t191]
        exact hz.2 i hi
