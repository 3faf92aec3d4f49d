/-! ===== the calls: sheet, write, load, judge ===== -/
theorem c_zero {N t : Nat} {x1 x2 : Int32} : ∀ d i fuel (τ : tw_T), i + d = 40 → d < fuel → lg_X5_renew_20 N t fuel x1 x2 (nI i) τ = tw_sr τ (t + 1) (fun j => if i ≤ j ∧ j < 40 then 0 else τ (t + 1) j) ∧ lo_X5_renew_20 N t fuel x1 x2 (nI i) τ := by
  intro d
  induction d with
  | zero =>
    intro i fuel τ hi hf
    obtain ⟨u, rfl⟩ : ∃ u, fuel = u + 1 := ⟨fuel - 1, by omega⟩
    have e : i = 40 := by omega
    subst e
    have hle : (40 : Int32) ≤ nI 40 := by decide
    rw [lg_X5_renew_20, lo_X5_renew_20, if_pos hle, if_pos hle]
    refine ⟨?_, trivial⟩
    have : (fun j => if 40 ≤ j ∧ j < 40 then 0 else τ (t + 1) j) = τ (t + 1) := by
      funext j
      rw [if_neg (by omega)]
    rw [this, sr_id]
  | succ d ih =>
    intro i fuel τ hi hf
    obtain ⟨u, rfl⟩ : ∃ u, fuel = u + 1 := ⟨fuel - 1, by omega⟩
    have hle : ¬ (40 : Int32) ≤ nI i := nI_ge (a := i) (b := 40) (by omega) (by decide)
    rw [lg_X5_renew_20, lo_X5_renew_20, if_neg hle, if_neg hle, nI_1, nI_clamp (by omega)]
    obtain ⟨a1, a2⟩ := ih (i + 1) u (tw_sr τ (t + 1) (upd (τ (t + 1)) i 0)) (by omega) (by omega)
    refine ⟨?_, vp_in_nI (by omega) (by decide), a2⟩
    rw [a1, sr_sr, sr_self]
    congr 1
    funext j
    by_cases c : j = i
    · subst c
      rw [if_neg (by omega), pk_us, if_pos (by omega)]
    · rw [pk_un c]
      by_cases q : i ≤ j ∧ j < 40
      · rw [if_pos q, if_pos (by omega)]
      · rw [if_neg q, if_neg (by omega)]
theorem m_zero {N s : Nat} {x2 x3 : Int32} (hs : s < 4) : ∀ d i fuel (τ : tw_T), i + d = 40 → d < fuel → lg_X9_sheet_86 N fuel (nI s) x2 x3 (nI i) τ = tw_sr τ 200 (fun j => if 40 * s + i ≤ j ∧ j < 40 * s + 40 then 0 else τ 200 j) ∧ lf_X9_sheet_86 N fuel (nI s) x2 x3 (nI i) τ = τ 199 s ∧ lo_X9_sheet_86 N fuel (nI s) x2 x3 (nI i) τ := by
  intro d
  induction d with
  | zero =>
    intro i fuel τ hi hf
    obtain ⟨u, rfl⟩ : ∃ u, fuel = u + 1 := ⟨fuel - 1, by omega⟩
    have e : i = 40 := by omega
    subst e
    have hle : (40 : Int32) ≤ nI 40 := by decide
    rw [lg_X9_sheet_86, lo_X9_sheet_86, lf_X9_sheet_86, if_pos hle, if_pos hle, if_pos hle, nI_clamp (by omega)]
    refine ⟨?_, rfl, vp_in_nI hs (by decide), trivial⟩
    have : (fun j => if 40 * s + 40 ≤ j ∧ j < 40 * s + 40 then 0 else τ 200 j) = τ 200 := by
      funext j
      rw [if_neg (by omega)]
    rw [this, sr_id]
  | succ d ih =>
    intro i fuel τ hi hf
    obtain ⟨u, rfl⟩ : ∃ u, fuel = u + 1 := ⟨fuel - 1, by omega⟩
    have hle : ¬ (40 : Int32) ≤ nI i := nI_ge (a := i) (b := 40) (by omega) (by decide)
    have e40 : (40 : Int32) * nI s + nI i = nI (40 * s + i) := by rw [show (40 : Int32) = nI 40 from rfl, pk_mul, nI_add]
    rw [lg_X9_sheet_86, lo_X9_sheet_86, lf_X9_sheet_86, if_neg hle, if_neg hle, if_neg hle, nI_1, e40, nI_clamp (by omega)]
    obtain ⟨a1, a2, a3⟩ := ih (i + 1) u (tw_sr τ 200 (upd (τ 200) (40 * s + i) 0)) (by omega) (by omega)
    refine ⟨?_, by rw [a2, sr_ne (by decide)], vp_in_nI (by omega) (by decide), a3⟩
    rw [a1, sr_sr, sr_self]
    congr 1
    funext j
    by_cases c : j = 40 * s + i
    · rw [c, if_neg (by omega), pk_us, if_pos (by omega)]
    · rw [pk_un c]
      by_cases q : 40 * s + i ≤ j ∧ j < 40 * s + 40
      · rw [if_pos q, if_pos (by omega)]
      · rw [if_neg q, if_neg (by omega)]
/-- only sheets have changed, alike on both sides -/
theorem Inv_sheet {c : Nat} {τ τ' : tw_T} (hI : Inv c τ) (hc : c < 512) (hk : ∀ k, (k < 182 ∨ 190 ≤ k) → k ≠ 198 → k ≠ 199 → k ≠ 200 → k ≠ 201 → τ' k = τ k) (hs : I_sheet τ') : Inv (c + 1) τ' := by
  obtain ⟨h0, h1, h2, h3, h4, h5, h6⟩ := hI
  have d : ∀ k, (k < 182 ∨ k = 190 ∨ k = 191 ∨ k = 192 ∨ k = 194 ∨ k = 195) → τ' k = τ k := fun k h => hk k (by omega) (by omega) (by omega) (by omega) (by omega)
  exact ⟨by omega, I_sea_congr (fun k a b => d k (by omega)) (d 191 (by decide)) (I_sea_mono h1), I_kept_congr (by rw [d 0 (by decide)]) (by rw [d 190 (by decide)]) (fun k a b => d k (by omega)) (d 192 (by decide)) (I_kept_mono h2), I_tape_congr (by rw [d 190 (by decide)]) (by rw [d 27 (by decide)]) (d 28 (by decide)) (d 195 (by decide)) h3, hs, I_fnd_congr (d 30 (by decide)) (d 194 (by decide)) h5, I_dem_congr (d 48 (by decide)) h6⟩
theorem sheet_body {c N s n : Nat} {x2 x3 z : Int32} {τ : tw_T} (hI : Inv c τ) (hc : c < 512) (hN : 5000 ≤ N) (hs : s < 4) (hx : x2 = 0 ∨ x2 = 8 ∨ x2 = 16 ∨ x2 = 32) (hn : n ≤ 40) (hz : z = nI n) (hz2 : z = if x2 = 0 then 0 else x3) :
    p_X5_renew N (182 + 2 * s) x2 x3 τ ∧ (g_X5_renew N (182 + 2 * s) x2 x3 τ) (182 + 2 * s) 2 = z ∧
    lf_X9_sheet_86 N N (nI s) x2 x3 0 (tw_sr (tw_sr (g_X5_renew N (182 + 2 * s) x2 x3 τ) 198 (upd ((g_X5_renew N (182 + 2 * s) x2 x3 τ) 198) s x2)) 199 (upd ((g_X5_renew N (182 + 2 * s) x2 x3 τ) 199) s z)) = z ∧
    lo_X9_sheet_86 N N (nI s) x2 x3 0 (tw_sr (tw_sr (g_X5_renew N (182 + 2 * s) x2 x3 τ) 198 (upd ((g_X5_renew N (182 + 2 * s) x2 x3 τ) 198) s x2)) 199 (upd ((g_X5_renew N (182 + 2 * s) x2 x3 τ) 199) s z)) ∧
    Inv (c + 1) (lg_X9_sheet_86 N N (nI s) x2 x3 0 (tw_sr (tw_sr (g_X5_renew N (182 + 2 * s) x2 x3 τ) 198 (upd ((g_X5_renew N (182 + 2 * s) x2 x3 τ) 198) s x2)) 199 (upd ((g_X5_renew N (182 + 2 * s) x2 x3 τ) 199) s z))) := by
  have hg : g_X5_renew N (182 + 2 * s) x2 x3 τ = lg_X5_renew_20 N (182 + 2 * s) N x2 x3 (nI 0) (tw_sr τ (182 + 2 * s) (upd (upd (τ (182 + 2 * s)) 1 x2) 2 z)) ∧ (lo_X5_renew_20 N (182 + 2 * s) N x2 x3 (nI 0) (tw_sr τ (182 + 2 * s) (upd (upd (τ (182 + 2 * s)) 1 x2) 2 z)) → p_X5_renew N (182 + 2 * s) x2 x3 τ) := by
    unfold g_X5_renew p_X5_renew
    by_cases c0 : x2 = 0
    · rw [if_pos c0] at hz2
      rw [if_pos c0, if_pos c0, hz2, sr_sr, sr_self]
      exact ⟨rfl, id⟩
    · rw [if_neg c0] at hz2
      rw [if_neg c0, if_neg c0, hz2, sr_sr, sr_self]
      exact ⟨rfl, id⟩
  obtain ⟨g1, g2⟩ := hg
  obtain ⟨a1, a2⟩ := c_zero (N := N) (t := 182 + 2 * s) (x1 := x2) (x2 := x3) 40 0 N (tw_sr τ (182 + 2 * s) (upd (upd (τ (182 + 2 * s)) 1 x2) 2 z)) (by omega) (by omega)
  rw [← g1, sr_ne (by omega)] at a1
  generalize hG : g_X5_renew N (182 + 2 * s) x2 x3 τ = G at *
  have gq : ∀ q, q ≠ 182 + 2 * s → q ≠ 182 + 2 * s + 1 → G q = τ q := fun q h1 h2 => by rw [a1, sr_ne h2, sr_ne h1]
  have gs : G (182 + 2 * s) = upd (upd (τ (182 + 2 * s)) 1 x2) 2 z := by rw [a1, sr_ne (by omega), sr_self]
  have gn : ∀ j, j < 40 → G (182 + 2 * s + 1) j = 0 := fun j hj => by rw [a1, sr_self]; exact if_pos ⟨Nat.zero_le j, hj⟩
  obtain ⟨b1, b2, b3⟩ := m_zero (N := N) (x2 := x2) (x3 := x3) hs 40 0 N (tw_sr (tw_sr G 198 (upd (G 198) s x2)) 199 (upd (G 199) s z)) (by omega) (by omega)
  refine ⟨g2 a2, by rw [gs, pk_us], ?_, b3, ?_⟩
  · show lf_X9_sheet_86 N N (nI s) x2 x3 (nI 0) _ = z
    rw [b2, sr_self, pk_us]
  · show Inv (c + 1) (lg_X9_sheet_86 N N (nI s) x2 x3 (nI 0) _)
    rw [b1]
    refine Inv_sheet hI hc (fun k h1 h2 h3 h4 h5 => ?_) (fun t ht => ?_)
    · rw [sr_ne h4, sr_ne h3, sr_ne h2, gq k (by omega) (by omega)]
    · obtain ⟨i1, i2, i3, i4, i5⟩ := hI.2.2.2.2.1 t ht
      have eA : (tw_sr (tw_sr G 198 (upd (G 198) s x2)) 199 (upd (G 199) s z)) 200 = τ 200 := by rw [sr_ne (by decide), sr_ne (by decide), gq 200 (by omega) (by omega)]
      have Tq : ∀ q, q < 198 → (tw_sr (tw_sr (tw_sr G 198 (upd (G 198) s x2)) 199 (upd (G 199) s z)) 200 (fun j => if 40 * s + 0 ≤ j ∧ j < 40 * s + 40 then 0 else (tw_sr (tw_sr G 198 (upd (G 198) s x2)) 199 (upd (G 199) s z)) 200 j)) q = G q := fun q hq => by rw [sr_ne (by omega), sr_ne (by omega), sr_ne (by omega)]
      have T198 : (tw_sr (tw_sr (tw_sr G 198 (upd (G 198) s x2)) 199 (upd (G 199) s z)) 200 (fun j => if 40 * s + 0 ≤ j ∧ j < 40 * s + 40 then 0 else (tw_sr (tw_sr G 198 (upd (G 198) s x2)) 199 (upd (G 199) s z)) 200 j)) 198 = upd (τ 198) s x2 := by rw [sr_ne (by decide), sr_ne (by decide), sr_self, gq 198 (by omega) (by omega)]
      have T199 : (tw_sr (tw_sr (tw_sr G 198 (upd (G 198) s x2)) 199 (upd (G 199) s z)) 200 (fun j => if 40 * s + 0 ≤ j ∧ j < 40 * s + 40 then 0 else (tw_sr (tw_sr G 198 (upd (G 198) s x2)) 199 (upd (G 199) s z)) 200 j)) 199 = upd (τ 199) s z := by rw [sr_ne (by decide), sr_self, gq 199 (by omega) (by omega)]
      have T200 : (tw_sr (tw_sr (tw_sr G 198 (upd (G 198) s x2)) 199 (upd (G 199) s z)) 200 (fun j => if 40 * s + 0 ≤ j ∧ j < 40 * s + 40 then 0 else (tw_sr (tw_sr G 198 (upd (G 198) s x2)) 199 (upd (G 199) s z)) 200 j)) 200 = fun j => if 40 * s + 0 ≤ j ∧ j < 40 * s + 40 then 0 else τ 200 j := by rw [sr_self, eA]
      rw [T198, T199, T200, Tq _ (by omega), Tq _ (by omega)]
      by_cases e : t = s
      · subst e
        rw [gs, pk_us, pk_us, pk_us, pk_un (by decide), pk_us]
        refine ⟨rfl, rfl, hx, ⟨n, hn, hz⟩, fun j hj => ?_⟩
        rw [gn j hj]
        exact (if_pos (show 40 * t + 0 ≤ 40 * t + j ∧ 40 * t + j < 40 * t + 40 by omega)).symm
      · rw [gq _ (by omega) (by omega), gq _ (by omega) (by omega), pk_un e, pk_un e]
        refine ⟨i1, i2, i3, i4, fun j hj => ?_⟩
        exact (i5 j hj).trans (if_neg (show ¬ (40 * s + 0 ≤ 40 * t + j ∧ 40 * t + j < 40 * s + 40) by omega)).symm
theorem st_sheet {c N : Nat} {τ : tw_T} (hI : Inv c τ) (hc : c < 512) (hN : 5000 ≤ N) (x1 x2 x3 : Int32) : p_X8_sheet N x1 x2 x3 τ ∧ p_X9_sheet N x1 x2 x3 (g_X8_sheet N x1 x2 x3 τ) ∧ f_X8_sheet N x1 x2 x3 τ = f_X9_sheet N x1 x2 x3 (g_X8_sheet N x1 x2 x3 τ) ∧ Inv (c + 1) (g_X9_sheet N x1 x2 x3 (g_X8_sheet N x1 x2 x3 τ)) := by
  obtain ⟨q1, q2⟩ := fail_B hI hc
  obtain ⟨w1, w2⟩ := fail_Z hI hc
  by_cases h : f_X8_within x1 0 3 τ = 0
  · have h9 : ∀ τ', f_X9_isSheet x1 τ' = 0 := fun τ' => h
    unfold p_X8_sheet p_X9_sheet f_X9_sheet g_X9_sheet f_X8_sheet g_X8_sheet
    simp only [h, h9, if_true, ite_self]
    exact ⟨trivial, ⟨q1, trivial⟩, rfl, q2⟩
  have h9 : ∀ τ', ¬ f_X9_isSheet x1 τ' = 0 := fun τ' => h
  obtain ⟨s, hs, rfl⟩ := w_of (n := 3) rfl (by decide) h
  have es : (nI s).toNatClampNeg = s := nI_clamp (by omega)
  have hv : vp_in (nI s) 4 := vp_in_nI (by omega) (by decide)
  by_cases hx : x2 = 0 ∨ x2 = 8 ∨ x2 = 16 ∨ x2 = 32
  · -- the same body at each width
    have B : (g_X8_sheet N (nI s) x2 x3 τ = if (0 : Int32) ≤ x3 then (if x3 ≤ (40 : Int32) then g_X5_renew N (182 + 2 * s) x2 x3 τ else g_X8_found ((-1000001)) τ) else g_X8_found ((-1000007)) τ) ∧
        (f_X8_sheet N (nI s) x2 x3 τ = if (0 : Int32) ≤ x3 then (if x3 ≤ (40 : Int32) then (g_X5_renew N (182 + 2 * s) x2 x3 τ) (182 + 2 * s) 2 else (-1000001)) else (-1000007)) ∧
        (p_X8_sheet N (nI s) x2 x3 τ = if (0 : Int32) ≤ x3 then (if x3 ≤ (40 : Int32) then (vp_in (nI s) 4 ∧ (p_X5_renew N (182 + 2 * s) x2 x3 τ ∧ (vp_in (nI s) 4 ∧ True))) else True) else True) := by
      unfold g_X8_sheet f_X8_sheet p_X8_sheet
      simp only [h, if_false, es]
      by_cases c0 : x2 = 0
      · simp only [c0, if_true]; exact ⟨trivial, trivial, trivial⟩
      by_cases c8 : x2 = 8
      · simp only [c0, c8, if_true, if_false]; exact ⟨rfl, rfl, rfl⟩
      by_cases c16 : x2 = 16
      · simp only [c0, c8, c16, if_true, if_false]; exact ⟨rfl, rfl, rfl⟩
      by_cases c32 : x2 = 32
      · simp only [c0, c8, c16, c32, if_true, if_false]; exact ⟨rfl, rfl, rfl⟩
      exact absurd hx (by simp [c0, c8, c16, c32])
    have D : ∀ G : tw_T, (g_X9_sheet N (nI s) x2 x3 G = if (0 : Int32) ≤ x3 then (if x3 ≤ (40 : Int32) then lg_X9_sheet_86 N N (nI s) x2 x3 0 (tw_sr (tw_sr G 198 (upd (G 198) s x2)) 199 (upd (G 199) s (if x2 = 0 then 0 else x3))) else g_X9_finding ((-1000001)) G) else g_X9_finding ((-1000007)) G) ∧
        (f_X9_sheet N (nI s) x2 x3 G = if (0 : Int32) ≤ x3 then (if x3 ≤ (40 : Int32) then lf_X9_sheet_86 N N (nI s) x2 x3 0 (tw_sr (tw_sr G 198 (upd (G 198) s x2)) 199 (upd (G 199) s (if x2 = 0 then 0 else x3))) else f_X9_finding ((-1000001)) G) else f_X9_finding ((-1000007)) G) ∧
        ((if (0 : Int32) ≤ x3 then (if x3 ≤ (40 : Int32) then (vp_in (nI s) 4 ∧ (vp_in (nI s) 4 ∧ lo_X9_sheet_86 N N (nI s) x2 x3 0 (tw_sr (tw_sr G 198 (upd (G 198) s x2)) 199 (upd (G 199) s (if x2 = 0 then 0 else x3))))) else (p_X9_finding ((-1000001)) G ∧ True)) else (p_X9_finding ((-1000007)) G ∧ True)) → p_X9_sheet N (nI s) x2 x3 G) := by
      intro G
      have e199 : ∀ r, (tw_sr G 198 r) 199 = G 199 := fun r => sr_ne (by decide)
      unfold g_X9_sheet f_X9_sheet p_X9_sheet
      simp only [h9, if_false, es, e199]
      by_cases c0 : x2 = 0
      · simp only [c0, if_true]; exact ⟨trivial, trivial, id⟩
      by_cases c8 : x2 = 8
      · have k0 : ¬ (8 : Int32) = 0 := by decide
        simp only [c8, k0, if_true, if_false]; exact ⟨trivial, trivial, id⟩
      by_cases c16 : x2 = 16
      · have k0 : ¬ (16 : Int32) = 0 := by decide
        have k1 : ¬ (16 : Int32) = 8 := by decide
        simp only [c16, k0, k1, if_true, if_false]; exact ⟨trivial, trivial, id⟩
      by_cases c32 : x2 = 32
      · have k0 : ¬ (32 : Int32) = 0 := by decide
        have k1 : ¬ (32 : Int32) = 8 := by decide
        have k2 : ¬ (32 : Int32) = 16 := by decide
        simp only [c32, k0, k1, k2, if_true, if_false]; exact ⟨trivial, trivial, id⟩
      exact absurd hx (by simp [c0, c8, c16, c32])
    obtain ⟨B1, B2, B3⟩ := B
    obtain ⟨D1, D2, D3⟩ := D (g_X8_sheet N (nI s) x2 x3 τ)
    rw [D1, D2, B2, B3]
    by_cases h0 : (0 : Int32) ≤ x3
    · by_cases h40 : x3 ≤ (40 : Int32)
      · obtain ⟨n, hn, rfl⟩ := nI_of2 (n := 40) (M := 40) rfl (Int32.not_lt.mpr h0) h40
        have hz : (if x2 = 0 then 0 else nI n) = nI (if x2 = 0 then 0 else n) := by split <;> rfl
        obtain ⟨b1, b2, b3, b4, b5⟩ := sheet_body (N := N) (s := s) (n := if x2 = 0 then 0 else n) (x2 := x2) (x3 := nI n) hI hc hN (by omega) hx (by split <;> omega) hz rfl
        simp only [h0, h40, if_true] at B1 D3 ⊢
        rw [B1] at D3 ⊢
        exact ⟨⟨hv, b1, hv, trivial⟩, D3 ⟨hv, hv, b4⟩, b2.trans b3.symm, b5⟩
      · simp only [h0, h40, if_true, if_false] at B1 D3 ⊢
        rw [B1] at D3 ⊢
        exact ⟨trivial, D3 ⟨q1, trivial⟩, rfl, q2⟩
    · simp only [h0, if_false] at B1 D3 ⊢
      rw [B1] at D3 ⊢
      exact ⟨trivial, D3 ⟨w1, trivial⟩, rfl, w2⟩
  · have c0 : ¬ x2 = 0 := fun q => hx (Or.inl q)
    have c8 : ¬ x2 = 8 := fun q => hx (Or.inr (Or.inl q))
    have c16 : ¬ x2 = 16 := fun q => hx (Or.inr (Or.inr (Or.inl q)))
    have c32 : ¬ x2 = 32 := fun q => hx (Or.inr (Or.inr (Or.inr q)))
    unfold p_X8_sheet p_X9_sheet f_X9_sheet g_X9_sheet f_X8_sheet g_X8_sheet
    simp only [c0, c8, c16, c32, h, h9, if_false]
    exact ⟨trivial, ⟨q1, trivial⟩, rfl, q2⟩
/-! a sheet's number -/
theorem trouble_or {c : Nat} {τ : tw_T} (hI : Inv c τ) (x1 : Int32) :
    (f_X8_troubleWith x1 τ = -1000001 ∧ p_X8_troubleWith x1 τ ∧ ∀ τ', f_X9_isSheet x1 τ' = 0) ∨
    (∃ s, s < 4 ∧ x1 = nI s ∧ f_X8_troubleWith (nI s) τ = -1000006 ∧ p_X8_troubleWith (nI s) τ ∧ τ 198 s = 0 ∧ ∀ τ', ¬ f_X9_isSheet (nI s) τ' = 0) ∨
    (∃ s, s < 4 ∧ x1 = nI s ∧ f_X8_troubleWith (nI s) τ = 0 ∧ p_X8_troubleWith (nI s) τ ∧ ¬ τ 198 s = 0 ∧ ∀ τ', ¬ f_X9_isSheet (nI s) τ' = 0) := by
  unfold f_X8_troubleWith p_X8_troubleWith
  by_cases h : f_X8_within x1 0 3 τ = 0
  · left
    rw [if_pos h, if_pos h]
    exact ⟨rfl, trivial, fun τ' => h⟩
  · obtain ⟨s, hs, rfl⟩ := w_of (n := 3) rfl (by decide) h
    have es : (nI s).toNatClampNeg = s := nI_clamp (by omega)
    obtain ⟨i1, i2, i3, i4, i5⟩ := hI.2.2.2.2.1 s (by omega)
    right
    unfold f_X5_isMissing
    by_cases z : τ 198 s = 0
    · left
      refine ⟨s, by omega, rfl, ?_, ?_, z, fun τ' => h⟩
      · rw [if_neg h, es, i1, if_pos z, if_neg (by decide)]
      · rw [if_neg h]
        exact ⟨vp_in_nI (by omega) (by decide), trivial⟩
    · right
      refine ⟨s, by omega, rfl, ?_, ?_, z, fun τ' => h⟩
      · rw [if_neg h, es, i1, if_neg z, if_pos rfl]
      · rw [if_neg h]
        exact ⟨vp_in_nI (by omega) (by decide), trivial⟩
theorem lacks_B {x1 x2 : Int32} {τ : tw_T} (h : f_X9_isSheet x1 τ = 0) : f_X9_lacks x1 x2 τ = -1000001 ∧ p_X9_lacks x1 x2 τ := by
  unfold f_X9_lacks p_X9_lacks
  rw [if_pos h, if_pos h]
  exact ⟨rfl, trivial⟩
theorem lacks_M {s : Nat} {x2 : Int32} {τ : tw_T} (hs : s < 4) (h : ¬ f_X9_isSheet (nI s) τ = 0) (hz : τ 198 s = 0) : f_X9_lacks (nI s) x2 τ = -1000006 ∧ p_X9_lacks (nI s) x2 τ := by
  unfold f_X9_lacks p_X9_lacks
  rw [if_neg h, if_neg h, nI_clamp (by omega), if_pos hz]
  exact ⟨rfl, vp_in_nI hs (by decide), trivial⟩
theorem lacks_0 {s : Nat} {x2 : Int32} {τ : tw_T} (hs : s < 4) (h : ¬ f_X9_isSheet (nI s) τ = 0) (hz : ¬ τ 198 s = 0) (h2 : ¬ x2 = 0) : f_X9_lacks (nI s) x2 τ = 0 ∧ p_X9_lacks (nI s) x2 τ := by
  unfold f_X9_lacks p_X9_lacks
  rw [if_neg h, if_neg h, nI_clamp (by omega), if_neg hz, if_neg h2]
  exact ⟨rfl, vp_in_nI hs (by decide), trivial⟩
