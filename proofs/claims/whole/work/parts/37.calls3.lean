/-! ===== the calls: change, who, now, count, status ===== -/
theorem become_at {k : Nat} {τ : tw_T} {j : Nat} {v : Int32} (h : j < 7) : g_X6_become k (nI j) v τ = tw_sr τ k (upd (τ k) j v) := by
  rcases f7 h with rfl | rfl | rfl | rfl | rfl | rfl | rfl <;> rfl
/-- a field that a ship may be given -/
theorem may_or (x2 x3 : Int32) : (∀ τ, f_X6_mayBecome x2 x3 τ = 0) ∨ ∃ j m, j < 7 ∧ m < bdS j ∧ x2 = nI j ∧ x3 = nI m ∧ ∀ τ, ¬ f_X6_mayBecome x2 x3 τ = 0 := by
  have one : ∀ (j n : Nat) (hi : Int32), j < 7 → bdS j = n + 1 → hi = nI n → n < 2 ^ 31 → x2 = nI j → (∀ τ, f_X6_mayBecome (nI j) x3 τ = f_X8_within x3 0 hi τ) → ((∀ τ, f_X6_mayBecome x2 x3 τ = 0) ∨ ∃ j m, j < 7 ∧ m < bdS j ∧ x2 = nI j ∧ x3 = nI m ∧ ∀ τ, ¬ f_X6_mayBecome x2 x3 τ = 0) := by
    intro j n hi hj hb hn h31 e hw
    subst e
    by_cases c : f_X8_within x3 0 hi (fun _ _ => 0) = 0
    · left
      intro τ
      rw [hw]
      exact c
    · right
      obtain ⟨m, hm, rfl⟩ := w_of hn h31 c
      exact ⟨j, m, hj, by omega, rfl, rfl, fun τ => by rw [hw]; exact c⟩
  by_cases c0 : x2 = 0
  · exact one 0 6 6 (by decide) rfl rfl (by decide) c0 (fun _ => rfl)
  by_cases c1 : x2 = 1
  · exact one 1 23 23 (by decide) rfl rfl (by decide) c1 (fun _ => rfl)
  by_cases c2 : x2 = 2
  · exact one 2 1 1 (by decide) rfl rfl (by decide) c2 (fun _ => rfl)
  by_cases c3 : x2 = 3
  · exact one 3 5 5 (by decide) rfl rfl (by decide) c3 (fun _ => rfl)
  by_cases c4 : x2 = 4
  · exact one 4 1 1 (by decide) rfl rfl (by decide) c4 (fun _ => rfl)
  by_cases c5 : x2 = 5
  · exact one 5 9999 9999 (by decide) rfl rfl (by decide) c5 (fun _ => rfl)
  by_cases c6 : x2 = 6
  · exact one 6 9999 9999 (by decide) rfl rfl (by decide) c6 (fun _ => rfl)
  left
  intro τ
  unfold f_X6_mayBecome
  rw [if_neg c0, if_neg c1, if_neg c2, if_neg c3, if_neg c4, if_neg c5, if_neg c6]
theorem field_eq (x2 x3 : Int32) (τ τ' : tw_T) : f_X9_isField x2 x3 τ' = f_X6_mayBecome x2 x3 τ := rfl
theorem st_change {c : Nat} {τ : tw_T} (hI : Inv c τ) (hc : c < 512) (x1 x2 x3 : Int32) : p_X8_change x1 x2 x3 τ ∧ p_X9_change x1 x2 x3 (g_X8_change x1 x2 x3 τ) ∧ f_X8_change x1 x2 x3 τ = f_X9_change x1 x2 x3 (g_X8_change x1 x2 x3 τ) ∧ Inv (c + 1) (g_X9_change x1 x2 x3 (g_X8_change x1 x2 x3 τ)) := by
  obtain ⟨M, ok, row, spt, ⟨hl, hn, hs⟩, hz⟩ := inv_M hI
  have hM1 := ok.2.1
  have r1 : τ 191 1 = nI (M 1) := row 1 (by decide) (by decide)
  obtain ⟨q1, q2⟩ := fail_B hI hc
  have rf : (g_X8_found ((-1000001)) τ) 191 1 = nI (M 1) := by rw [found_ne (by decide)]; exact r1
  unfold p_X8_change p_X9_change f_X9_change g_X9_change f_X8_change g_X8_change
  rcases isShip_or (τ := τ) hn hM1 x1 with ⟨a, b⟩ | ⟨i, hi, rfl, a, b⟩
  · simp only [a, b _ rf, if_true]
    exact ⟨trivial, ⟨q1, trivial⟩, rfl, q2⟩
  · rcases may_or x2 x3 with h | ⟨j, m, hj, hm, rfl, rfl, h⟩
    · simp only [field_eq x2 x3 τ, a, h, b _ rf, if_true, if_false]
      exact ⟨trivial, ⟨q1, trivial⟩, rfl, q2⟩
    · simp only [field_eq (nI j) (nI m) τ, a, h, if_false]
      have ei : (nI i).toNatClampNeg = i := nI_clamp (by omega)
      have ek : 3 + 2 + i = 1 + 4 + i := by omega
      rw [ei, ek, become_at hj, told_at hj]
      have rr : (tw_sr τ (1 + 4 + i) (upd (τ (1 + 4 + i)) j (nI m))) 191 = τ 191 := sr_ne (by omega)
      have bb := b (tw_sr τ (1 + 4 + i) (upd (τ (1 + 4 + i)) j (nI m))) (by rw [rr]; exact r1)
      rw [if_neg bb, if_neg bb, if_neg bb]
      unfold p_X9_become f_X9_become g_X9_become
      rw [m_at, nI_clamp (by omega), rr]
      have hv : vp_in (nI (17 + 7 * i + j)) 73 := vp_in_nI (by omega) (by decide)
      refine ⟨⟨vp_in_nI (by omega) (by decide), trivial⟩, ⟨⟨hv, hv, trivial⟩, trivial⟩, ?_, ?_⟩
      · rw [hs i hi j hj, row _ (by omega) (by omega)]
        rfl
      · refine Inv_sea hI hc (fun k hk => by unfold keepC at hk; rw [sr_ne (by omega), sr_ne (by omega)]) ?_
        unfold I_sea
        rw [sr_self]
        refine ⟨rng_upd (rng_mono hI.2.1.1) (by omega) (by omega) (by omega) (by rw [bd_ship hj]; exact hm), ?_⟩
        exact seaR_congr (fun k a b => by rw [sr_ne (by omega)]) (seaR_ship (i0 := i) (f0 := j) (v := nI m) hI.2.1.2 (by omega) hj)
/-! loops over the ships, on both sides -/
theorem or_0 (x : Int32) : x ||| 0 = x := by
  apply Int32.toBitVec_inj.1
  simp
theorem m_outE {τ : tw_T} {i : Nat} (hi : i < 8) : f_X9_isOut (nI i) τ = 0 ↔ ¬ τ 191 (17 + 7 * i + 4) = 0 := by
  unfold f_X9_isOut
  rw [q_4, m_is (by omega)]
  by_cases h : τ 191 (17 + 7 * i + 4) = 0
  · rw [if_pos h]
    simp [h]
  · rw [if_neg h]
    simp [h]
theorem m_pout {τ : tw_T} {i : Nat} (hi : i < 8) : p_X9_isOut (nI i) τ := by
  unfold p_X9_isOut
  rw [q_4]
  exact ⟨m_pis (by omega) τ, trivial⟩
/-- the ships of the class are those of the row -/
def same7 (τ : tw_T) (f m : Nat) : Prop := ∀ i, i < m → ∀ a, a < 7 → τ (f + 2 + i) a = τ 191 (17 + 7 * i + a)
theorem l_who {N m : Nat} {x : Int32} {τ : tw_T} (hm : m ≤ 8) (h8 : τ 3 1 = nI m) (h9 : τ 191 1 = nI m) (hs : same7 τ 3 m) : ∀ d i fuel fuel' acc, i + d = m → d < fuel → d < fuel' →
    lf_X1_shipsAt_4 N 3 fuel x acc (nI i) τ = lf_X9_who_18 N fuel' x acc (nI i) τ ∧ lo_X1_shipsAt_4 N 3 fuel x acc (nI i) τ ∧ lo_X9_who_18 N fuel' x acc (nI i) τ ∧ lg_X9_who_18 N fuel' x acc (nI i) τ = τ := by
  intro d
  induction d with
  | zero =>
    intro i fuel fuel' acc hi hf hf'
    obtain ⟨u, rfl⟩ : ∃ u, fuel = u + 1 := ⟨fuel - 1, by omega⟩
    obtain ⟨v, rfl⟩ : ∃ v, fuel' = v + 1 := ⟨fuel' - 1, by omega⟩
    have e : i = m := by omega
    subst e
    have hle : nI i ≤ nI i := nI_le (Nat.le_refl i) (by omega)
    rw [lf_X1_shipsAt_4, lo_X1_shipsAt_4, lf_X9_who_18, lo_X9_who_18, lg_X9_who_18, h8, h9, if_pos hle, if_pos hle, if_pos hle, if_pos hle, if_pos hle]
    exact ⟨rfl, trivial, trivial, rfl⟩
  | succ d ih =>
    intro i fuel fuel' acc hi hf hf'
    obtain ⟨u, rfl⟩ : ∃ u, fuel = u + 1 := ⟨fuel - 1, by omega⟩
    obtain ⟨v, rfl⟩ : ∃ v, fuel' = v + 1 := ⟨fuel' - 1, by omega⟩
    have him : i < m := by omega
    have hgt := nI_ge him (show m < 2 ^ 31 by omega)
    have hv : vp_in (nI i) 8 := vp_in_nI (by omega) (by decide)
    rw [lf_X1_shipsAt_4, lo_X1_shipsAt_4, lf_X9_who_18, lo_X9_who_18, lg_X9_who_18, h8, h9, if_neg hgt, if_neg hgt, if_neg hgt, if_neg hgt, if_neg hgt, nI_1, nI_clamp (by omega), hs i him 4 (by decide), hs i him 1 (by decide)]
    have e1 : f_X9_shipIs (nI i) 1 τ = τ 191 (17 + 7 * i + 1) := m_is (f := 1) (by omega) τ
    have hp := m_pout (τ := τ) (i := i) (by omega)
    have hp1 : p_X9_shipIs (nI i) 1 τ := m_pis (f := 1) (by omega) τ
    have ho := m_outE (τ := τ) (i := i) (by omega)
    rw [e1, or_0]
    obtain ⟨a1, a2, a3, a4⟩ := ih (i + 1) u v acc (by omega) (by omega) (by omega)
    obtain ⟨b1, b2, b3, b4⟩ := ih (i + 1) u v (acc ||| ((1 : Int32) <<< (nI i &&& 31))) (by omega) (by omega) (by omega)
    by_cases c : τ 191 (17 + 7 * i + 4) = 0
    · have hno : ¬ f_X9_isOut (nI i) τ = 0 := fun q => ho.mp q c
      simp only [c, hno, if_true, if_false]
      by_cases c2 : τ 191 (17 + 7 * i + 1) = x
      · simp only [c2, if_true]
        exact ⟨b1, ⟨hv, hv, b2⟩, ⟨hp, hp1, b3⟩, b4⟩
      · simp only [c2, if_false]
        exact ⟨a1, ⟨hv, hv, a2⟩, ⟨hp, hp1, a3⟩, a4⟩
    · have hno : f_X9_isOut (nI i) τ = 0 := ho.mpr c
      simp only [c, hno, if_true, if_false]
      exact ⟨a1, ⟨hv, a2⟩, ⟨hp, a3⟩, a4⟩
theorem inv_same7 {τ : tw_T} {M : Nat → Nat} (hM : M 1 ≤ 8) (row : rowT (τ 191) M) (hs : ∀ i, i < M 1 → shR (τ (1 + 4 + i)) (shipN M i)) : same7 τ 3 (M 1) := by
  intro i hi a ha
  rw [show 3 + 2 + i = 1 + 4 + i by omega, hs i hi a ha, row _ (by omega) (by omega)]
  rfl
theorem st_who {c N : Nat} {τ : tw_T} (hI : Inv c τ) (hc : c < 512) (hN : 5000 ≤ N) (x1 : Int32) : p_X8_who N x1 τ ∧ p_X9_who N x1 (g_X8_who N x1 τ) ∧ f_X8_who N x1 τ = f_X9_who N x1 (g_X8_who N x1 τ) ∧ Inv (c + 1) (g_X9_who N x1 (g_X8_who N x1 τ)) := by
  obtain ⟨M, ok, row, spt, ⟨hl, hn, hs⟩, hz⟩ := inv_M hI
  have hM1 := ok.2.1
  have r1 : τ 191 1 = nI (M 1) := row 1 (by decide) (by decide)
  obtain ⟨q1, q2⟩ := fail_B hI hc
  unfold p_X8_who p_X9_who f_X9_who g_X9_who f_X8_who g_X8_who
  by_cases h : f_X8_within x1 0 23 τ = 0
  · have h9 : ∀ τ', f_X9_isCell x1 τ' = 0 := fun τ' => h
    simp only [h, h9, if_true]
    exact ⟨trivial, ⟨q1, trivial⟩, rfl, q2⟩
  · have h9 : ∀ τ', ¬ f_X9_isCell x1 τ' = 0 := fun τ' => h
    simp only [h, h9, if_false]
    obtain ⟨a1, a2, a3, a4⟩ := l_who (N := N) (x := x1) hM1 hn r1 (inv_same7 hM1 row hs) (M 1) 0 N N 0 (by omega) (by omega) (by omega)
    refine ⟨⟨a2, trivial⟩, a3, a1, ?_⟩
    show Inv (c + 1) (lg_X9_who_18 N N x1 0 (nI 0) τ)
    rw [a4]
    exact Inv_mono hI hc
theorem l_port {N m : Nat} {τ : tw_T} (hm : m ≤ 8) (h8 : τ 3 1 = nI m) (h9 : τ 191 1 = nI m) (hs : same7 τ 3 m) (h4 : ∀ i, i < m → τ 191 (17 + 7 * i + 4) = 0 ∨ τ 191 (17 + 7 * i + 4) = 1) : ∀ d i fuel fuel' acc, i + d = m → d < fuel → d < fuel' →
    lf_X1_shipsInPort_4 N 3 fuel acc (nI i) τ = lf_X9_inPort_4 N fuel' acc (nI i) τ ∧ lo_X1_shipsInPort_4 N 3 fuel acc (nI i) τ ∧ lo_X9_inPort_4 N fuel' acc (nI i) τ := by
  intro d
  induction d with
  | zero =>
    intro i fuel fuel' acc hi hf hf'
    obtain ⟨u, rfl⟩ : ∃ u, fuel = u + 1 := ⟨fuel - 1, by omega⟩
    obtain ⟨v, rfl⟩ : ∃ v, fuel' = v + 1 := ⟨fuel' - 1, by omega⟩
    have e : i = m := by omega
    subst e
    have hle : nI i ≤ nI i := nI_le (Nat.le_refl i) (by omega)
    rw [lf_X1_shipsInPort_4, lo_X1_shipsInPort_4, lf_X9_inPort_4, lo_X9_inPort_4, h8, h9, if_pos hle, if_pos hle, if_pos hle, if_pos hle]
    exact ⟨rfl, trivial, trivial⟩
  | succ d ih =>
    intro i fuel fuel' acc hi hf hf'
    obtain ⟨u, rfl⟩ : ∃ u, fuel = u + 1 := ⟨fuel - 1, by omega⟩
    obtain ⟨v, rfl⟩ : ∃ v, fuel' = v + 1 := ⟨fuel' - 1, by omega⟩
    have him : i < m := by omega
    have hgt := nI_ge him (show m < 2 ^ 31 by omega)
    have hv : vp_in (nI i) 8 := vp_in_nI (by omega) (by decide)
    have hp := m_pout (τ := τ) (i := i) (by omega)
    have ho := m_outE (τ := τ) (i := i) (by omega)
    rw [lf_X1_shipsInPort_4, lo_X1_shipsInPort_4, lf_X9_inPort_4, lo_X9_inPort_4, h8, h9, if_neg hgt, if_neg hgt, if_neg hgt, if_neg hgt, nI_1, nI_clamp (by omega), hs i him 4 (by decide), or_0]
    rcases h4 i him with c | c
    · have hno : ¬ f_X9_isOut (nI i) τ = 0 := fun q => ho.mp q c
      have z : (0 : Int32) <<< (nI i &&& 31) = 0 := by rw [q_0, q_shl (by omega) (by omega), Nat.zero_mul]
      rw [c, z, or_0, if_neg hno, if_neg hno]
      obtain ⟨a1, a2, a3⟩ := ih (i + 1) u v acc (by omega) (by omega) (by omega)
      exact ⟨a1, ⟨hv, a2⟩, hp, a3⟩
    · have hno : f_X9_isOut (nI i) τ = 0 := ho.mpr (by rw [c]; decide)
      rw [c, if_pos hno, if_pos hno]
      obtain ⟨a1, a2, a3⟩ := ih (i + 1) u v (acc ||| ((1 : Int32) <<< (nI i &&& 31))) (by omega) (by omega) (by omega)
      exact ⟨a1, ⟨hv, a2⟩, hp, a3⟩
theorem l_taken {N m : Nat} {τ : tw_T} (hm : m ≤ 8) (h8 : τ 3 1 = nI m) (h9 : τ 191 1 = nI m) (hs : same7 τ 3 m) : ∀ d i fuel fuel' acc, i + d = m → d < fuel → d < fuel' →
    lf_X1_cellsTaken_4 N 3 fuel acc (nI i) τ = lf_X9_cellsTaken_4 N fuel' acc (nI i) τ ∧ lo_X1_cellsTaken_4 N 3 fuel acc (nI i) τ ∧ lo_X9_cellsTaken_4 N fuel' acc (nI i) τ := by
  intro d
  induction d with
  | zero =>
    intro i fuel fuel' acc hi hf hf'
    obtain ⟨u, rfl⟩ : ∃ u, fuel = u + 1 := ⟨fuel - 1, by omega⟩
    obtain ⟨v, rfl⟩ : ∃ v, fuel' = v + 1 := ⟨fuel' - 1, by omega⟩
    have e : i = m := by omega
    subst e
    have hle : nI i ≤ nI i := nI_le (Nat.le_refl i) (by omega)
    rw [lf_X1_cellsTaken_4, lo_X1_cellsTaken_4, lf_X9_cellsTaken_4, lo_X9_cellsTaken_4, h8, h9, if_pos hle, if_pos hle, if_pos hle, if_pos hle]
    exact ⟨rfl, trivial, trivial⟩
  | succ d ih =>
    intro i fuel fuel' acc hi hf hf'
    obtain ⟨u, rfl⟩ : ∃ u, fuel = u + 1 := ⟨fuel - 1, by omega⟩
    obtain ⟨v, rfl⟩ : ∃ v, fuel' = v + 1 := ⟨fuel' - 1, by omega⟩
    have him : i < m := by omega
    have hgt := nI_ge him (show m < 2 ^ 31 by omega)
    have hv : vp_in (nI i) 8 := vp_in_nI (by omega) (by decide)
    have hp := m_pout (τ := τ) (i := i) (by omega)
    have ho := m_outE (τ := τ) (i := i) (by omega)
    have e1 : f_X9_shipIs (nI i) 1 τ = τ 191 (17 + 7 * i + 1) := m_is (f := 1) (by omega) τ
    have hp1 : p_X9_shipIs (nI i) 1 τ := m_pis (f := 1) (by omega) τ
    rw [lf_X1_cellsTaken_4, lo_X1_cellsTaken_4, lf_X9_cellsTaken_4, lo_X9_cellsTaken_4, h8, h9, if_neg hgt, if_neg hgt, if_neg hgt, if_neg hgt, nI_1, nI_clamp (by omega), hs i him 4 (by decide), hs i him 1 (by decide), or_0, e1]
    obtain ⟨a1, a2, a3⟩ := ih (i + 1) u v acc (by omega) (by omega) (by omega)
    obtain ⟨b1, b2, b3⟩ := ih (i + 1) u v (acc ||| ((1 : Int32) <<< (τ 191 (17 + 7 * i + 1) &&& 31))) (by omega) (by omega) (by omega)
    by_cases c : τ 191 (17 + 7 * i + 4) = 0
    · have hno : ¬ f_X9_isOut (nI i) τ = 0 := fun q => ho.mp q c
      simp only [c, hno, if_true, if_false]
      exact ⟨b1, ⟨hv, hv, b2⟩, hp, hp1, b3⟩
    · have hno : f_X9_isOut (nI i) τ = 0 := ho.mpr c
      simp only [c, hno, if_true, if_false]
      exact ⟨a1, ⟨hv, a2⟩, hp, a3⟩
theorem l_near {N m : Nat} {τ : tw_T} (hm : m ≤ 8) (h8 : τ 3 1 = nI m) (h9 : τ 191 1 = nI m) (hs : same7 τ 3 m) : ∀ d i fuel fuel' acc least, i + d = m → d < fuel → d < fuel' →
    lf_X1_nearestToFirst_7 N 3 fuel acc least (nI i) τ = lf_X9_nearest_7 N fuel' acc least (nI i) τ ∧ lo_X1_nearestToFirst_7 N 3 fuel acc least (nI i) τ ∧ lo_X9_nearest_7 N fuel' acc least (nI i) τ := by
  intro d
  induction d with
  | zero =>
    intro i fuel fuel' acc least hi hf hf'
    obtain ⟨u, rfl⟩ : ∃ u, fuel = u + 1 := ⟨fuel - 1, by omega⟩
    obtain ⟨v, rfl⟩ : ∃ v, fuel' = v + 1 := ⟨fuel' - 1, by omega⟩
    have e : i = m := by omega
    subst e
    have hle : nI i ≤ nI i := nI_le (Nat.le_refl i) (by omega)
    rw [lf_X1_nearestToFirst_7, lo_X1_nearestToFirst_7, lf_X9_nearest_7, lo_X9_nearest_7, h8, h9, if_pos hle, if_pos hle, if_pos hle, if_pos hle]
    exact ⟨rfl, trivial, trivial⟩
  | succ d ih =>
    intro i fuel fuel' acc least hi hf hf'
    obtain ⟨u, rfl⟩ : ∃ u, fuel = u + 1 := ⟨fuel - 1, by omega⟩
    obtain ⟨v, rfl⟩ : ∃ v, fuel' = v + 1 := ⟨fuel' - 1, by omega⟩
    have him : i < m := by omega
    have hgt := nI_ge him (show m < 2 ^ 31 by omega)
    have hv : vp_in (nI i) 8 := vp_in_nI (by omega) (by decide)
    have hp := m_pout (τ := τ) (i := i) (by omega)
    have ho := m_outE (τ := τ) (i := i) (by omega)
    have e1 : f_X9_shipIs (nI i) 1 τ = τ 191 (17 + 7 * i + 1) := m_is (f := 1) (by omega) τ
    have hp1 : p_X9_shipIs (nI i) 1 τ := m_pis (f := 1) (by omega) τ
    rw [lf_X1_nearestToFirst_7, lo_X1_nearestToFirst_7, lf_X9_nearest_7, lo_X9_nearest_7, h8, h9, if_neg hgt, if_neg hgt, if_neg hgt, if_neg hgt, nI_1, nI_clamp (by omega), hs i him 4 (by decide), hs i him 1 (by decide), e1]
    obtain ⟨a1, a2, a3⟩ := ih (i + 1) u v acc least (by omega) (by omega) (by omega)
    obtain ⟨b1, b2, b3⟩ := ih (i + 1) u v (nI i) (τ 191 (17 + 7 * i + 1)) (by omega) (by omega) (by omega)
    by_cases c : τ 191 (17 + 7 * i + 4) = 0
    · have hno : ¬ f_X9_isOut (nI i) τ = 0 := fun q => ho.mp q c
      simp only [c, hno, if_true, if_false]
      by_cases c2 : least ≤ τ 191 (17 + 7 * i + 1)
      · simp only [c2, if_true]
        exact ⟨a1, ⟨hv, hv, a2⟩, hp, hp1, a3⟩
      · simp only [c2, if_false]
        exact ⟨b1, ⟨hv, hv, hv, b2⟩, hp, hp1, hp1, b3⟩
    · have hno : f_X9_isOut (nI i) τ = 0 := ho.mpr c
      simp only [c, hno, if_true, if_false]
      exact ⟨a1, ⟨hv, a2⟩, hp, a3⟩
