/-! ===== the calls: hold, as, image, undo ===== -/
theorem sea_take {N b o : Nat} {M : Nat → Nat} {τ : tw_T} (hM : M 1 ≤ 8) (hN : 9 ≤ N) (hd : o + 13 ≤ b ∨ b + 13 ≤ o) (h : stC τ o M) :
    stC (g_X4_take N b o τ) b M ∧ (g_X4_take N b o τ) b 3 = τ o 3 ∧ (∀ i, i < 10 → (g_X4_take N b o τ) (b + 12) i = τ (o + 12) i) ∧ (∀ q, (q < b ∨ b + 13 ≤ q) → g_X4_take N b o τ q = τ q) ∧ p_X4_take N b o τ := by
  obtain ⟨hl, hn, hs⟩ := h
  obtain ⟨r, t1, t2⟩ := l_take (τ := τ) (k := b + 1) (o := o + 1) (by omega)
  have hn' : (tw_sr τ (b + 1) r) (o + 2) 1 = nI (M 1) := by rw [sr_ne (by omega)]; exact hn
  obtain ⟨f1, f2, f3, f4⟩ := c_ftake (N := N) (f := b + 2) (o := o + 2) (τ := tw_sr τ (b + 1) r) hM (by omega) hn' (by omega)
  unfold g_X4_take p_X4_take
  rw [t1]
  generalize hG : g_X1_take N (b + 2) (o + 2) (tw_sr τ (b + 1) r) = G at *
  have gq : ∀ q, (q < b + 1 ∨ b + 12 ≤ q) → G q = τ q := fun q hq => by rw [f1 q (by omega), sr_ne (by omega)]
  have gl : G (b + 1) = r := by rw [f1 (b + 1) (by omega), sr_self]
  have e10 : (10 : Int32).toNatClampNeg = 10 := rfl
  have e0 : (0 : Int32).toNatClampNeg = 0 := rfl
  refine ⟨⟨?_, ?_, fun i hi f hf => ?_⟩, ?_, fun i hi => ?_, fun q hq => ?_, f4, ?_⟩
  · rw [sr_ne (by omega), sr_ne (by omega), gl]
    obtain ⟨h0, h1, h2, h3, h4⟩ := hl
    exact ⟨(t2 0 (by decide)).trans h0, (t2 1 (by decide)).trans h1, (t2 2 (by decide)).trans h2, (t2 3 (by decide)).trans h3, (t2 4 (by decide)).trans h4⟩
  · rw [sr_ne (by omega), sr_ne (by omega)]
    exact f2
  · rw [sr_ne (by omega), sr_ne (by omega), show b + 4 + i = b + 2 + 2 + i by omega, f3 i hi f hf, sr_ne (by omega), show o + 2 + 2 + i = o + 4 + i by omega]
    exact hs i hi f hf
  · rw [sr_self, pk_us, sr_ne (by omega), gq o (by omega)]
  · rw [sr_ne (by omega), sr_self, e10, e0, pk_cpy_in (by omega) (by omega), gq (o + 12) (by omega)]
    simp
  · rw [sr_ne (by omega), sr_ne (by omega), gq q (by omega)]
  · decide
theorem seaR_of {b : Nat} {τ : tw_T} {R : Nat → Int32} {M : Nat → Nat} {c : Nat} (h1 : okT (60 * c) M) (h2 : rowT R M) (h3 : sptR R M) (h4 : stC τ b M) (h5 : zsC τ b R) : rng c R ∧ seaR τ b R := sea_iff.mpr ⟨M, h1, h2, h3, h4, h5⟩
theorem cpR_in {A B : Nat → Int32} {j : Nat} (h : j < 73) : cpR A B j = A j := if_pos h
theorem st_image {c N : Nat} {τ : tw_T} (hI : Inv c τ) (hc : c < 512) (hN : 5000 ≤ N) : p_X8_image N τ ∧ p_X9_image N (g_X8_image N τ) ∧ f_X8_image N τ = f_X9_image N (g_X8_image N τ) ∧ Inv (c + 1) (g_X9_image N (g_X8_image N τ)) := by
  obtain ⟨M, ok, row, spt, st, hz⟩ := inv_M hI
  obtain ⟨s1, s2, s3, s4, s5⟩ := sea_take (N := N) (b := 14) (o := 1) (τ := τ) ok.2.1 (by omega) (by omega) st
  unfold p_X8_image p_X9_image g_X9_image g_X8_image
  generalize hG : g_X4_take N 14 1 τ = G at *
  obtain ⟨c1, c2⟩ := m_cp (N := N) (ra := 191) (rb := 192) (τ := tw_sr G 0 (upd (G 0) 2 1)) (by decide) (by omega)
  refine ⟨⟨s5, trivial⟩, ⟨c2, trivial⟩, rfl, ?_⟩
  rw [c1, sr_ne (by decide), sr_ne (by decide), sr_ne (by decide), sr_ne (by decide), s4 191 (by decide), s4 192 (by decide), s4 190 (by decide), s4 0 (by decide)]
  have e : ∀ q, q ≠ 0 → q ≠ 192 → q ≠ 190 → (q < 14 ∨ 27 ≤ q) → (tw_sr (tw_sr (tw_sr G 0 (upd (τ 0) 2 1)) 192 (cpR (τ 191) (τ 192))) 190 (upd (τ 190) 3 1)) q = τ q := fun q a b d e => by rw [sr_ne d, sr_ne b, sr_ne a, s4 q (by omega)]
  obtain ⟨h0, h1, h2, h3, h4, h5, h6⟩ := hI
  refine ⟨by omega, I_sea_congr (fun q a b => e q (by omega) (by omega) (by omega) (by omega)) (e _ (by decide) (by decide) (by decide) (by decide)) (I_sea_mono h1), ⟨?_, ?_, fun _ => ?_⟩, ?_, I_sheet_congr (fun q a b => e q (by omega) (by omega) (by omega) (by omega)) (e _ (by decide) (by decide) (by decide) (by decide)) (e _ (by decide) (by decide) (by decide) (by decide)) (e _ (by decide) (by decide) (by decide) (by decide)) h4, I_fnd_congr (e _ (by decide) (by decide) (by decide) (by decide)) (e _ (by decide) (by decide) (by decide) (by decide)) h5, I_dem_congr (e _ (by decide) (by decide) (by decide) (by decide)) h6⟩
  · rw [sr_self, pk_us, sr_ne (by decide), sr_ne (by decide), sr_self, pk_us]
  · rw [sr_self, pk_us]; exact Or.inr rfl
  · have e192 : (tw_sr (tw_sr (tw_sr G 0 (upd (τ 0) 2 1)) 192 (cpR (τ 191) (τ 192))) 190 (upd (τ 190) 3 1)) 192 = cpR (τ 191) (τ 192) := by rw [sr_ne (by decide), sr_self]
    have eG : ∀ q, 14 ≤ q → q < 27 → (tw_sr (tw_sr (tw_sr G 0 (upd (τ 0) 2 1)) 192 (cpR (τ 191) (τ 192))) 190 (upd (τ 190) 3 1)) q = G q := fun q a b => by rw [sr_ne (by omega), sr_ne (by omega), sr_ne (by omega)]
    rw [e192]
    refine seaR_of (M := M) (okT_mono ok (by omega)) ?_ ?_ ⟨?_, ?_, fun i hi => ?_⟩ ⟨?_, fun i hi => ?_⟩
    · intro j a b
      rw [cpR_in a]
      exact row j a b
    · intro i hi
      rw [cpR_in (by omega)]
      exact spt i hi
    · rw [eG _ (by decide) (by decide)]; exact s1.1
    · rw [eG _ (by decide) (by decide)]; exact s1.2.1
    · have := ok.2.1
      rw [eG _ (by omega) (by omega)]; exact s1.2.2 i hi
    · rw [eG _ (by decide) (by decide), s2, cpR_in (by decide)]; exact hz.1
    · rw [eG _ (by decide) (by decide), s3 i hi, cpR_in (by omega)]; exact hz.2 i hi
  · exact I_tape_congr (by rw [sr_self, pk_un (by decide)]) (by rw [e _ (by decide) (by decide) (by decide) (by decide)]) (e _ (by decide) (by decide) (by decide) (by decide)) (e _ (by decide) (by decide) (by decide) (by decide)) h3
theorem st_undo {c N : Nat} {τ : tw_T} (hI : Inv c τ) (hc : c < 512) (hN : 5000 ≤ N) : p_X8_undo N τ ∧ p_X9_undo N (g_X8_undo N τ) ∧ f_X8_undo N τ = f_X9_undo N (g_X8_undo N τ) ∧ Inv (c + 1) (g_X9_undo N (g_X8_undo N τ)) := by
  obtain ⟨k1, k2, k3⟩ := hI.2.2.1
  unfold p_X8_undo p_X9_undo f_X9_undo g_X9_undo f_X8_undo g_X8_undo
  by_cases h : τ 0 2 = 0
  · obtain ⟨q1, q2⟩ := fail_N hI hc
    have h9 : (g_X8_found ((-1000004)) τ) 190 3 = 0 := by rw [found_ne (by decide), ← k1]; exact h
    simp only [h, h9, if_true]
    exact ⟨trivial, ⟨q1, trivial⟩, rfl, q2⟩
  · have h1 : τ 190 3 = 1 := by
      rcases k2 with q | q
      · rw [k1] at h; exact absurd q h
      · exact q
    obtain ⟨M, ok, row, spt, st, hz⟩ := sea_iff.mp (k3 h1)
    obtain ⟨s1, s2, s3, s4, s5⟩ := sea_take (N := N) (b := 1) (o := 14) (τ := τ) ok.2.1 (by omega) (by omega) st
    simp only [h, if_false]
    generalize hG : g_X4_take N 1 14 τ = G at *
    have h9 : ¬ G 190 3 = 0 := by rw [s4 190 (by decide), h1]; decide
    obtain ⟨c1, c2⟩ := m_cp (N := N) (ra := 192) (rb := 191) (τ := G) (by decide) (by omega)
    simp only [h9, if_false]
    rw [c1, s4 191 (by decide), s4 192 (by decide)]
    refine ⟨⟨s5, trivial⟩, ⟨c2, trivial⟩, ?_, ?_⟩
    · rw [sr_self, cpR_in (by decide), row 0 (by decide) (by decide)]
      exact s1.1.2.2.2.2
    · refine inv_of (M := M) hI hc (fun q hq => ?_) (okT_mono ok (by omega)) ?_ ?_ ⟨?_, ?_, fun i hi => ?_⟩ ⟨?_, fun i hi => ?_⟩
      · unfold keepC at hq
        rw [sr_ne (by omega), s4 q (by omega)]
      · intro j a b
        rw [sr_self, cpR_in a]
        exact row j a b
      · intro i hi
        rw [sr_self, cpR_in (by omega)]
        exact spt i hi
      · rw [sr_ne (by decide)]; exact s1.1
      · rw [sr_ne (by decide)]; exact s1.2.1
      · have := ok.2.1
        rw [sr_ne (by omega)]; exact s1.2.2 i hi
      · rw [sr_ne (by decide), sr_self, s2, cpR_in (by decide)]; exact hz.1
      · rw [sr_ne (by decide), sr_self, s3 i hi, cpR_in (by omega)]; exact hz.2 i hi
theorem spot_fin {c i : Nat} {v : Int32} {τ : tw_T} (hI : Inv c τ) (hc : c < 512) (hi : i < 10) (hv : v = -1 ∨ ∃ k, nI k < τ 191 1 ∧ k < 8 ∧ v = nI k) : Inv (c + 1) (tw_sr (tw_sr τ 13 (upd (τ 13) i v)) 191 (upd (τ 191) (7 + i) v)) := by
  refine Inv_sea hI hc (fun k hk => by unfold keepC at hk; rw [sr_ne (by omega), sr_ne (by omega)]) ?_
  unfold I_sea
  rw [sr_self]
  refine ⟨rng_spot (rng_mono hI.2.1.1) hi hv, ?_⟩
  exact seaR_congr (fun k a b => by rw [sr_ne (by omega)]) (seaR_spot (b := 1) (i0 := i) (v := v) hI.2.1.2 hi)
theorem st_hold {c : Nat} {τ : tw_T} (hI : Inv c τ) (hc : c < 512) (x1 x2 : Int32) : p_X8_hold x1 x2 τ ∧ p_X9_hold x1 x2 (g_X8_hold x1 x2 τ) ∧ f_X8_hold x1 x2 τ = f_X9_hold x1 x2 (g_X8_hold x1 x2 τ) ∧ Inv (c + 1) (g_X9_hold x1 x2 (g_X8_hold x1 x2 τ)) := by
  obtain ⟨M, ok, row, spt, ⟨hl, hn, hs⟩, hz⟩ := inv_M hI
  have hM1 := ok.2.1
  have r1 : τ 191 1 = nI (M 1) := row 1 (by decide) (by decide)
  obtain ⟨q1, q2⟩ := fail_B hI hc
  have rf : (g_X8_found ((-1000001)) τ) 191 1 = nI (M 1) := by rw [found_ne (by decide)]; exact r1
  unfold p_X8_hold p_X9_hold f_X9_hold g_X9_hold f_X8_hold g_X8_hold
  by_cases h : f_X8_within x1 0 9 τ = 0
  · have h9 : ∀ τ', f_X9_isSpot x1 τ' = 0 := fun τ' => h
    simp only [h, h9, if_true]
    exact ⟨trivial, ⟨q1, trivial⟩, rfl, q2⟩
  have h9 : ∀ τ', ¬ f_X9_isSpot x1 τ' = 0 := fun τ' => h
  obtain ⟨i, hi, rfl⟩ := w_of (n := 9) rfl (by decide) h
  have e7 : (7 : Int32) + nI i = nI (7 + i) := nI_add 7 i
  have ei : (nI i).toNatClampNeg = i := nI_clamp (by omega)
  have ei7 : (nI (7 + i)).toNatClampNeg = 7 + i := nI_clamp (by omega)
  have hv : vp_in (nI i) 10 := vp_in_nI (by omega) (by decide)
  have hv7 : vp_in (nI (7 + i)) 73 := vp_in_nI (by omega) (by decide)
  by_cases c1 : x2 = -1
  · simp only [h, h9, c1, if_true, if_false, e7, ei, ei7]
    refine ⟨⟨hv, trivial⟩, ⟨hv7, trivial⟩, trivial, ?_⟩
    rw [sr_ne (by decide)]
    exact spot_fin hI hc (by omega) (Or.inl rfl)
  · rcases isShip_or (τ := τ) hn hM1 x2 with ⟨a, b⟩ | ⟨k, hk, rfl, a, b⟩
    · simp only [h, h9, c1, a, b _ rf, if_true, if_false]
      exact ⟨trivial, ⟨q1, trivial⟩, rfl, q2⟩
    · simp only [h, h9, c1, a, if_false, e7, ei, ei7]
      have hh := b (tw_sr τ 13 (upd (τ 13) i (nI k))) (by rw [sr_ne (by decide)]; exact r1)
      rw [if_neg hh, if_neg hh, if_neg hh]
      refine ⟨⟨hv, trivial⟩, ⟨hv7, trivial⟩, rfl, ?_⟩
      rw [sr_ne (by decide)]
      exact spot_fin hI hc (by omega) (Or.inr ⟨k, by rw [r1]; exact nI_lt hk (by omega), by omega, rfl⟩)
theorem l_under {N : Nat} {x0 x1 : Int32} {τ : tw_T} : ∀ d a fuel (x2 : Int32), a + d = 7 → d < fuel → lo_X8_isUnder_4 N fuel x0 x1 x2 (nI a) τ := by
  intro d
  induction d with
  | zero =>
    intro a fuel x2 ha hf
    obtain ⟨u, rfl⟩ : ∃ u, fuel = u + 1 := ⟨fuel - 1, by omega⟩
    have e : a = 7 := by omega
    subst e
    have hlt : (6 : Int32) < nI 7 := by decide
    rw [lo_X8_isUnder_4, if_pos hlt]
    trivial
  | succ d ih =>
    intro a fuel x2 ha hf
    obtain ⟨u, rfl⟩ : ∃ u, fuel = u + 1 := ⟨fuel - 1, by omega⟩
    have hlt : ¬ (6 : Int32) < nI a := nI_nlt (a := 6) (b := a) (by omega) (by decide)
    rw [lo_X8_isUnder_4, if_neg hlt, nI_1]
    by_cases h : f_X8_within x2 0 6 τ = 0
    · rw [if_pos h]; trivial
    · rw [if_neg h]
      obtain ⟨k, hk, rfl⟩ := w_of (n := 6) rfl (by decide) h
      by_cases e : nI k = x1
      · rw [if_pos e]; trivial
      · rw [if_neg e]
        exact ⟨vp_in_nI (by omega) (by decide), ih (a + 1) u _ (by omega) (by omega)⟩
theorem c_under {N : Nat} (hN : 8 ≤ N) (τ τ' : tw_T) {k u : Nat} (hk : k < 7) (hu : u < 7) : f_X8_isUnder N (nI k) (nI u) τ = f_X9_isUnder N (nI k) (nI u) τ' ∧ p_X9_isUnder N (nI k) (nI u) τ' := by
  obtain ⟨n, rfl⟩ : ∃ n, N = n + 8 := ⟨N - 8, by omega⟩
  rcases f7 hk with rfl | rfl | rfl | rfl | rfl | rfl | rfl <;> rcases f7 hu with rfl | rfl | rfl | rfl | rfl | rfl | rfl <;> exact ⟨rfl, trivial⟩
theorem st_as {c N : Nat} {τ : tw_T} (hI : Inv c τ) (hc : c < 512) (hN : 5000 ≤ N) (x1 x2 : Int32) : p_X8_as N x1 x2 τ ∧ p_X9_as N x1 x2 (g_X8_as N x1 x2 τ) ∧ f_X8_as N x1 x2 τ = f_X9_as N x1 x2 (g_X8_as N x1 x2 τ) ∧ Inv (c + 1) (g_X9_as N x1 x2 (g_X8_as N x1 x2 τ)) := by
  obtain ⟨M, ok, row, spt, ⟨hl, hn, hs⟩, hz⟩ := inv_M hI
  have hM1 := ok.2.1
  have r1 : τ 191 1 = nI (M 1) := row 1 (by decide) (by decide)
  obtain ⟨q1, q2⟩ := fail_B hI hc
  unfold p_X8_as p_X9_as f_X9_as g_X9_as f_X8_as g_X8_as
  by_cases h : f_X8_within x1 0 9 τ = 0
  · have h9 : ∀ τ', f_X9_isSpot x1 τ' = 0 := fun τ' => h
    simp only [h, h9, if_true]
    exact ⟨trivial, ⟨q1, trivial⟩, rfl, q2⟩
  have h9 : ∀ τ', ¬ f_X9_isSpot x1 τ' = 0 := fun τ' => h
  by_cases g : f_X8_within x2 0 6 τ = 0
  · have g9 : ∀ τ', f_X9_isKind x2 τ' = 0 := fun τ' => g
    simp only [h, h9, g, g9, if_true, if_false]
    exact ⟨trivial, ⟨q1, trivial⟩, rfl, q2⟩
  have g9 : ∀ τ', ¬ f_X9_isKind x2 τ' = 0 := fun τ' => g
  obtain ⟨i, hi, rfl⟩ := w_of (n := 9) rfl (by decide) h
  obtain ⟨u, hu, rfl⟩ := w_of (n := 6) rfl (by decide) g
  have e7 : (7 : Int32) + nI i = nI (7 + i) := nI_add 7 i
  have ei : (nI i).toNatClampNeg = i := nI_clamp (by omega)
  have ei7 : (nI (7 + i)).toNatClampNeg = 7 + i := nI_clamp (by omega)
  have hv : vp_in (nI i) 10 := vp_in_nI (by omega) (by decide)
  have hv7 : vp_in (nI (7 + i)) 73 := vp_in_nI (by omega) (by decide)
  have e13 : τ 13 i = τ 191 (7 + i) := hz.2 i (by omega)
  simp only [h, h9, g, g9, if_false, e7, ei, ei7, e13]
  rcases spt i (by omega) with s | ⟨k, hk, s⟩
  · obtain ⟨w1, w2⟩ := fail_M hI hc
    have sf : (g_X8_found ((-1000006)) τ) 191 (7 + i) = -1 := by rw [found_ne (by decide)]; exact s
    have ns : f_X8_isShip (-1) τ = 0 := by
      unfold f_X8_isShip
      rw [wi8]
      exact Or.inl (by decide)
    have n0 : ¬ (0 : Int32) ≤ -1 := by decide
    simp only [s, ns, sf, n0, if_true, if_false]
    exact ⟨⟨hv, trivial⟩, ⟨hv7, w1, trivial⟩, rfl, w2⟩
  · have hsh : ¬ f_X8_isShip (nI k) τ = 0 := by
      rcases isShip_or (τ := τ) hn hM1 (nI k) with ⟨a, b⟩ | ⟨k', hk', e, a, b⟩
      · unfold f_X8_isShip at a ⊢
        rw [hn] at a ⊢
        rcases sh_or (nI k) hM1 with z | ⟨_, _, _, z⟩
        · have : nI (M 1) - 1 = nI (M 1 - 1) := pk_sub (a := M 1) (b := 1) (by omega)
          rw [this] at a
          exact absurd a (w_in (by omega) (by omega))
        · exact z τ
      · exact a
    have ek : (nI k).toNatClampNeg = k := nI_clamp (by omega)
    have e5 : 3 + 2 + k = 1 + 4 + k := by omega
    have p0 : (0 : Int32) ≤ nI k := nI_pos' (by omega)
    have os := okT_S ok (i := k) (by omega)
    have kk := hs k hk 0 (by decide)
    have is9 : ∀ τ', τ' 191 = τ 191 → f_X9_shipIs (nI k) 0 τ' = nI (shipN M k 0) := fun τ' e => by
      rw [q_0, m_is (by omega), e, row _ (by omega) (by omega)]
      rfl
    have ps9 : ∀ τ', p_X9_shipIs (nI k) 0 τ' := fun τ' => m_pis (f := 0) (by omega) τ'
    simp only [s, hsh, ek, e5, kk, if_false]
    by_cases hh : f_X8_isUnder N (nI (shipN M k 0)) (nI u) τ = 0
    · obtain ⟨w1, w2⟩ := fail_K hI hc
      have sf : (g_X8_found ((-1000003)) τ) 191 = τ 191 := found_ne (by decide)
      obtain ⟨u1, u2⟩ := c_under (N := N) (by omega) τ (g_X8_found ((-1000003)) τ) os.1 (show u < 7 by omega)
      have hh9 := hh
      rw [u1] at hh9
      simp only [hh, sf, s, p0, is9 _ sf, hh9, if_true]
      exact ⟨⟨hv, vp_in_nI (by omega) (by decide), l_under 7 0 N _ (by omega) (by omega), trivial⟩, ⟨hv7, ps9 _, u2, w1, trivial⟩, rfl, w2⟩
    · obtain ⟨u1, u2⟩ := c_under (N := N) (by omega) τ τ os.1 (show u < 7 by omega)
      have hh9 := hh
      rw [u1] at hh9
      simp only [hh, s, p0, is9 τ rfl, hh9, if_true, if_false]
      exact ⟨⟨hv, vp_in_nI (by omega) (by decide), l_under 7 0 N _ (by omega) (by omega), trivial⟩, ⟨hv7, ps9 _, u2, trivial⟩, trivial, Inv_mono hI hc⟩
