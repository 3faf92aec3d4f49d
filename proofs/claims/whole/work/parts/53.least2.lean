/-! ===== the calls: speedFor, lagFor ===== -/
theorem pfN (τ : tw_T) : p_X9_finding (-1000004) τ := (find9 (j := 3) (τ := τ) (by decide) (by decide)).1
/-- the greatest of those below d that will do -/
def topN (q : Nat → Bool) : Nat → Option Nat
  | 0 => none
  | d + 1 => if q d then some d else topN q d
def resB (o : Option Nat) : Int32 := match o with
  | some v => nI v
  | none => -1
theorem fin_N {c k : Nat} {τ G H : tw_T} {r : Nat → Int32} {o : Option Nat} (hI : Inv c τ) (hc : c < 512) (hk : 44 ≤ k ∧ k ≤ 46) (hG : G = if o.isSome then tw_sr τ k r else g_X8_found (-1000004) (tw_sr τ k r)) (hH : ∃ Y, H = if o.isSome then tw_sr G 193 Y else g_X9_finding (-1000004) (tw_sr G 193 Y)) : Inv (c + 1) H := by
  obtain ⟨Y, hH⟩ := hH
  cases o with
  | some n =>
    have hG' : G = tw_sr τ k r := hG
    have hH' : H = tw_sr G 193 Y := hH
    rw [hH', hG']
    exact Inv_mono (inv_scratch hI hc hk _ _) hc
  | none =>
    have hG' : G = g_X8_found (-1000004) (tw_sr τ k r) := hG
    have hH' : H = g_X9_finding (-1000004) (tw_sr G 193 Y) := hH
    rw [hH', hG', found_193 (j := 3) (by decide) (by decide)]
    exact (fail_N (inv_scratch hI hc hk r Y) hc).2
theorem l_speed {N T i n : Nat} {M : Nat → Nat} (ok : okT T M) (hT : M 0 + n ≤ 99999) (hi : i < M 1) (hN : n < N) : ∀ d fuel (τ : tw_T), d ≤ 6 → d < fuel → litR (τ 2) M → shR (τ (1 + 4 + i)) (shipN M i) →
    lf_X8_speedFor_27 N fuel (nI i) (nI n) (nI d - 1) τ = resI (topN (fun v => decide (strW M i 3 v n = M (17 + 7 * i + 5))) d) ∧ (∃ r, lg_X8_speedFor_27 N fuel (nI i) (nI n) (nI d - 1) τ = if (topN (fun v => decide (strW M i 3 v n = M (17 + 7 * i + 5))) d).isSome then tw_sr τ 45 r else g_X8_found (-1000004) (tw_sr τ 45 r)) ∧ lo_X8_speedFor_27 N fuel (nI i) (nI n) (nI d - 1) τ := by
  have hM1 := ok.2.1
  intro d
  induction d with
  | zero =>
    intro fuel τ hd hf hl hs
    obtain ⟨u, rfl⟩ : ∃ u, fuel = u + 1 := ⟨fuel - 1, by omega⟩
    have hlt : (nI 0 - 1 : Int32) < 0 := by decide
    rw [lf_X8_speedFor_27, lg_X8_speedFor_27, lo_X8_speedFor_27, if_pos hlt, if_pos hlt, if_pos hlt]
    exact ⟨rfl, ⟨τ 45, by rw [sr_id]; rfl⟩, trivial⟩
  | succ d ih =>
    intro fuel τ hd hf hl hs
    obtain ⟨u, rfl⟩ : ∃ u, fuel = u + 1 := ⟨fuel - 1, by omega⟩
    have hlt : ¬ (nI (d + 1) - 1 : Int32) < 0 := by rw [nI_pred]; exact nI_pos (by omega)
    have b5 : M (17 + 7 * i + 5) < 10000 := (okT_S ok (i := i) (by omega)).2.2.2.2.2.1
    have gB := strW_lt (n := n) (what := 3) (v := d) ok hi (by decide) (show d < 6 by omega)
    obtain ⟨e1, ⟨r, e2⟩, e3⟩ := c_with (N := N) (n := n) (what := 3) (v := d) ok hT hl hi hs (by decide) (show d < 6 by omega) hN
    have e1' : f_X8_strandedWith N (nI i) 3 (nI d) (nI n) τ = _ := e1
    have e2' : g_X8_strandedWith N (nI i) 3 (nI d) (nI n) τ = _ := e2
    have e3' : p_X8_strandedWith N (nI i) 3 (nI d) (nI n) τ := e3
    have ei : (nI i).toNatClampNeg = i := nI_clamp (by omega)
    have es : (tw_sr τ 45 r) (3 + 2 + i) 5 = nI (M (17 + 7 * i + 5)) := by
      rw [sr_ne (by omega), show 3 + 2 + i = 1 + 4 + i by omega]
      exact hs 5 (by decide)
    have hv : vp_in (nI i) 8 := vp_in_nI (by omega) (by decide)
    rw [lf_X8_speedFor_27, lg_X8_speedFor_27, lo_X8_speedFor_27, if_neg hlt, if_neg hlt, if_neg hlt, dec_m1, nI_pred, e1', e2', ei, es]
    by_cases c : strW M i 3 d n = M (17 + 7 * i + 5)
    · have c' : nI (strW M i 3 d n) = nI (M (17 + 7 * i + 5)) := by rw [c]
      have et : topN (fun v => decide (strW M i 3 v n = M (17 + 7 * i + 5))) (d + 1) = some d := by
        show (if decide (strW M i 3 d n = M (17 + 7 * i + 5)) then _ else _) = _
        simp [c]
      rw [et, if_pos c', if_pos c', if_pos c']
      exact ⟨rfl, ⟨r, rfl⟩, e3', hv, trivial⟩
    · have c' : ¬ nI (strW M i 3 d n) = nI (M (17 + 7 * i + 5)) := fun q => c ((nI_eq (by omega) (by omega)).mp q)
      have et : topN (fun v => decide (strW M i 3 v n = M (17 + 7 * i + 5))) (d + 1) = topN (fun v => decide (strW M i 3 v n = M (17 + 7 * i + 5))) d := by
        show (if decide (strW M i 3 d n = M (17 + 7 * i + 5)) then _ else _) = _
        simp [c]
      obtain ⟨a1, ⟨r', a2⟩, a3⟩ := ih u (tw_sr τ 45 r) (by omega) (by omega) (by rw [sr_ne (by decide)]; exact hl) (by rw [sr_ne (by omega)]; exact hs)
      rw [et, if_neg c', if_neg c', if_neg c']
      exact ⟨a1, ⟨r', by rw [a2, sr_sr]⟩, e3', hv, a3⟩
theorem resB_none {o : Option Nat} (h : ∀ v, o = some v → v < 2 ^ 31) : ((0 : Int32) ≤ resB o ↔ o.isSome = true) ∧ (o.isSome = true → resB o = resI o) := by
  cases o with
  | none =>
    refine ⟨⟨fun q => absurd q (by decide), fun q => absurd q (by decide)⟩, fun q => absurd q (by decide)⟩
  | some v =>
    exact ⟨⟨fun _ => rfl, fun _ => nI_pos' (h v rfl)⟩, fun _ => rfl⟩
theorem topN_lt {q : Nat → Bool} : ∀ d v, topN q d = some v → v < d
  | 0, v, h => by cases h
  | d + 1, v, h => by
    have h' : (if q d then some d else topN q d) = some v := h
    split at h'
    · cases h'; exact Nat.lt_succ_self d
    · exact Nat.lt_succ_of_lt (topN_lt d v h')
theorem ml_speed {N T i n : Nat} {M : Nat → Nat} {τ : tw_T} (ok : okT T M) (hT : T + n < 2 ^ 30) (hi : i < M 1) (hN : 74 ≤ N) (hN2 : n < N) (row : rowT (τ 191) M) : ∀ d k fuel (w : Int32) (Y : Nat → Int32), k + d = 6 → d < fuel →
    lf_X9_speedFor_50 N fuel (nI i) (nI n) (nI (17 + 7 * i + 3)) (τ 191 (17 + 7 * i + 3)) (nI (M (17 + 7 * i + 5))) (resB (topN (fun v => decide (strW M i 3 v n = M (17 + 7 * i + 5))) k)) (nI k) (thk τ Y (17 + 7 * i + 3) w) = resI (topN (fun v => decide (strW M i 3 v n = M (17 + 7 * i + 5))) 6) ∧
    (∃ Y', lg_X9_speedFor_50 N fuel (nI i) (nI n) (nI (17 + 7 * i + 3)) (τ 191 (17 + 7 * i + 3)) (nI (M (17 + 7 * i + 5))) (resB (topN (fun v => decide (strW M i 3 v n = M (17 + 7 * i + 5))) k)) (nI k) (thk τ Y (17 + 7 * i + 3) w) = if (topN (fun v => decide (strW M i 3 v n = M (17 + 7 * i + 5))) 6).isSome then tw_sr τ 193 Y' else g_X9_finding (-1000004) (tw_sr τ 193 Y')) ∧
    lo_X9_speedFor_50 N fuel (nI i) (nI n) (nI (17 + 7 * i + 3)) (τ 191 (17 + 7 * i + 3)) (nI (M (17 + 7 * i + 5))) (resB (topN (fun v => decide (strW M i 3 v n = M (17 + 7 * i + 5))) k)) (nI k) (thk τ Y (17 + 7 * i + 3) w) := by
  have hM1 := ok.2.1
  have ep : (nI (17 + 7 * i + 3)).toNatClampNeg = 17 + 7 * i + 3 := nI_clamp (by omega)
  have vp : vp_in (nI (17 + 7 * i + 3)) 73 := vp_in_nI (by omega) (by decide)
  intro d
  induction d with
  | zero =>
    intro k fuel w Y hk hf
    obtain ⟨u, rfl⟩ : ∃ u, fuel = u + 1 := ⟨fuel - 1, by omega⟩
    have e : k = 6 := by omega
    subst e
    have hlt : (5 : Int32) < nI 6 := by decide
    rw [lf_X9_speedFor_50, lg_X9_speedFor_50, lo_X9_speedFor_50, if_pos hlt, if_pos hlt, if_pos hlt, ep, thk_set, thk_end]
    generalize ho : topN (fun v => decide (strW M i 3 v n = M (17 + 7 * i + 5))) 6 = o
    obtain ⟨n1, n2⟩ := resB_none (o := o) (fun v hv => by have := topN_lt 6 v (ho.trans hv); omega)
    unfold f_X9_orNone g_X9_orNone p_X9_orNone
    by_cases c : o.isSome = true
    · rw [if_pos (n1.mpr c), if_pos (n1.mpr c), if_pos (n1.mpr c)]
      refine ⟨n2 c, ⟨Y, ?_⟩, vp, trivial, trivial⟩
      rw [if_pos c]
    · have hno : ¬ (0 : Int32) ≤ resB o := fun q => c (n1.mp q)
      rw [if_neg hno, if_neg hno, if_neg hno]
      refine ⟨?_, ⟨Y, ?_⟩, vp, ⟨pfN _, trivial⟩, trivial⟩
      · cases o with
        | none => rfl
        | some v => exact absurd rfl c
      · rw [if_neg c]
  | succ d ih =>
    intro k fuel w Y hk hf
    obtain ⟨u, rfl⟩ : ∃ u, fuel = u + 1 := ⟨fuel - 1, by omega⟩
    have hnlt : ¬ (5 : Int32) < nI k := nI_nlt (a := 5) (b := k) (by omega) (by decide)
    have b5 : M (17 + 7 * i + 5) < 10000 := (okT_S ok (i := i) (by omega)).2.2.2.2.2.1
    have gB := strW_lt (n := n) (what := 3) (v := k) ok hi (by decide) (show k < 6 by omega)
    have okv := okT_mU (j := 17 + 7 * i + 3) (v := k) ok (by omega) (by omega) (by omega) (by rw [bd_ship (by decide)]; show k < 6; omega)
    obtain ⟨c1, c2, c3⟩ := m_behind (N := N) (n := n) (j := 17 + 7 * i + 5) (τ := thk τ Y (17 + 7 * i + 3) (nI k)) okv hT hN hN2 (by rw [thk_191]; exact rowT_mU row) (by omega) (by omega)
    rw [strW_tk ok hi (by decide)] at c1
    rw [thk_193] at c2
    have e5 : ∀ T, f_X9_shipAt (nI i) 5 T = nI (17 + 7 * i + 5) := fun T => m_at i 5 T
    rw [lf_X9_speedFor_50, lg_X9_speedFor_50, lo_X9_speedFor_50, if_neg hnlt, if_neg hnlt, if_neg hnlt, ep, thk_set, e5, c1, c2, nI_1]
    by_cases c : strW M i 3 k n = M (17 + 7 * i + 5)
    · have c' : nI (strW M i 3 k n) = nI (M (17 + 7 * i + 5)) := by rw [c]
      have et : topN (fun v => decide (strW M i 3 v n = M (17 + 7 * i + 5))) (k + 1) = some k := by
        show (if decide (strW M i 3 k n = M (17 + 7 * i + 5)) then _ else _) = _
        simp [c]
      obtain ⟨a1, a2, a3⟩ := ih (k + 1) u (nI k) (cpR ((thk τ Y (17 + 7 * i + 3) (nI k)) 191) ((thk τ Y (17 + 7 * i + 3) (nI k)) 193)) (by omega) (by omega)
      rw [et] at a1 a2 a3
      rw [if_pos c', if_pos c', if_pos c']
      exact ⟨a1, a2, vp, c3, a3⟩
    · have c' : ¬ nI (strW M i 3 k n) = nI (M (17 + 7 * i + 5)) := fun q => c ((nI_eq (by omega) (by omega)).mp q)
      have et : topN (fun v => decide (strW M i 3 v n = M (17 + 7 * i + 5))) (k + 1) = topN (fun v => decide (strW M i 3 v n = M (17 + 7 * i + 5))) k := by
        show (if decide (strW M i 3 k n = M (17 + 7 * i + 5)) then _ else _) = _
        simp [c]
      obtain ⟨a1, a2, a3⟩ := ih (k + 1) u (nI k) (cpR ((thk τ Y (17 + 7 * i + 3) (nI k)) 191) ((thk τ Y (17 + 7 * i + 3) (nI k)) 193)) (by omega) (by omega)
      rw [et] at a1 a2 a3
      rw [if_neg c', if_neg c', if_neg c']
      exact ⟨a1, a2, vp, c3, a3⟩
theorem st_speedFor {c N : Nat} {τ : tw_T} (hI : Inv c τ) (hc : c < 512) (hN : 5000 ≤ N) (x1 x2 : Int32) : p_X8_speedFor N x1 x2 τ ∧ p_X9_speedFor N x1 x2 (g_X8_speedFor N x1 x2 τ) ∧ f_X8_speedFor N x1 x2 τ = f_X9_speedFor N x1 x2 (g_X8_speedFor N x1 x2 τ) ∧ Inv (c + 1) (g_X9_speedFor N x1 x2 (g_X8_speedFor N x1 x2 τ)) := by
  obtain ⟨M, ok, row, spt, ⟨hl, hn, hs⟩, hz⟩ := inv_M hI
  have hM1 := ok.2.1
  have hM0 := ok.1
  have r1 : τ 191 1 = nI (M 1) := row 1 (by decide) (by decide)
  obtain ⟨q1, q2⟩ := fail_B hI hc
  have rf : (g_X8_found ((-1000001)) τ) 191 1 = nI (M 1) := by rw [found_ne (by decide)]; exact r1
  unfold p_X8_speedFor p_X9_speedFor f_X9_speedFor g_X9_speedFor f_X8_speedFor g_X8_speedFor
  rcases isShip_or (τ := τ) hn hM1 x1 with ⟨a, b⟩ | ⟨i, hi, rfl, a, b⟩
  · simp only [a, b _ rf, if_true]
    exact ⟨trivial, ⟨q1, trivial⟩, rfl, q2⟩
  by_cases h : f_X8_within x2 0 60 τ = 0
  · have h9 : ∀ τ', f_X9_isThought x2 τ' = 0 := fun τ' => h
    simp only [a, b _ rf, h, h9, if_true, if_false]
    exact ⟨trivial, ⟨q1, trivial⟩, rfl, q2⟩
  have h9 : ∀ τ', ¬ f_X9_isThought x2 τ' = 0 := fun τ' => h
  obtain ⟨n, hn60, rfl⟩ := w_of (n := 60) rfl (by decide) h
  obtain ⟨a1, ⟨r, a2⟩, a3⟩ := l_speed (N := N) (n := n) ok (by omega) hi (by omega) 6 N τ (by omega) (by omega) hl (hs i hi)
  have a1' : lf_X8_speedFor_27 N N (nI i) (nI n) 5 τ = _ := a1
  have a2' : lg_X8_speedFor_27 N N (nI i) (nI n) 5 τ = _ := a2
  have a3' : lo_X8_speedFor_27 N N (nI i) (nI n) 5 τ := a3
  simp only [a, h, h9, if_false]
  generalize hG : lg_X8_speedFor_27 N N (nI i) (nI n) 5 τ = G at *
  have g191 : G 191 = τ 191 := seek_191 (by decide) a2'
  have hh := b G (by rw [g191]; exact r1)
  rw [if_neg hh, if_neg hh, if_neg hh]
  have ea : f_X9_shipAt (nI i) 3 G = nI (17 + 7 * i + 3) := m_at i 3 G
  have ep : (nI (17 + 7 * i + 3)).toNatClampNeg = 17 + 7 * i + 3 := nI_clamp (by omega)
  have vp : vp_in (nI (17 + 7 * i + 3)) 73 := vp_in_nI (by omega) (by decide)
  have e5 : f_X9_shipIs (nI i) 5 G = nI (M (17 + 7 * i + 5)) := by
    rw [q_5, m_is (by omega), g191, row _ (by omega) (by omega)]
  obtain ⟨b1, b2, b3⟩ := ml_speed (N := N) (n := n) (i := i) (τ := G) ok (by omega) hi (by omega) (by omega) (by rw [g191]; exact row) 6 0 N (G 191 (17 + 7 * i + 3)) (G 193) (by omega) (by omega)
  rw [← thk_start] at b1 b2 b3
  have b1' : lf_X9_speedFor_50 N N (nI i) (nI n) (nI (17 + 7 * i + 3)) (G 191 (17 + 7 * i + 3)) (nI (M (17 + 7 * i + 5))) (-1) 0 G = _ := b1
  have b2' : ∃ Y', lg_X9_speedFor_50 N N (nI i) (nI n) (nI (17 + 7 * i + 3)) (G 191 (17 + 7 * i + 3)) (nI (M (17 + 7 * i + 5))) (-1) 0 G = _ := b2
  have b3' : lo_X9_speedFor_50 N N (nI i) (nI n) (nI (17 + 7 * i + 3)) (G 191 (17 + 7 * i + 3)) (nI (M (17 + 7 * i + 5))) (-1) 0 G := b3
  rw [ea, ep, e5]
  exact ⟨a3', ⟨vp, m_pis (f := 5) (by omega) _, b3'⟩, a1'.trans b1'.symm, fin_N hI hc (by decide) a2' b2'⟩
/-! lagFor -/
def lagW (M : Nat → Nat) (n v : Nat) : Nat := strA (tk (mU M 4 v) n)
theorem lagW_lt {T n v : Nat} {M : Nat → Nat} (ok : okT T M) (hv : v < 24) : lagW M n v < 80000 := strA_lt (okT_tk (okT_mU (j := 4) ok (by decide) (by decide) (by decide) hv) n)
theorem c_lag {N T n v w : Nat} {M : Nat → Nat} {τ : tw_T} (ok : okT T M) (hT : M 0 + n ≤ 99999) (hN : 9 ≤ N) (hN2 : n < N) (hv : v < 24) (hl : litR (τ 44) (mU M 4 w)) (hn : τ 3 1 = nI (M 1)) (hs : ∀ i, i < M 1 → shR (τ (1 + 4 + i)) (shipN M i)) :
    f_X1_strandedOfAll N 33 (g_X1_sailOn N 33 44 (nI n) (g_X1_take N 33 3 (tw_sr τ 44 (upd (τ 44) 1 (nI v))))) = nI (lagW M n v) ∧ p_X1_take N 33 3 (tw_sr τ 44 (upd (τ 44) 1 (nI v))) ∧ p_X1_sailOn N 33 44 (nI n) (g_X1_take N 33 3 (tw_sr τ 44 (upd (τ 44) 1 (nI v)))) ∧ p_X1_strandedOfAll N 33 (g_X1_sailOn N 33 44 (nI n) (g_X1_take N 33 3 (tw_sr τ 44 (upd (τ 44) 1 (nI v))))) ∧
    litR ((g_X1_sailOn N 33 44 (nI n) (g_X1_take N 33 3 (tw_sr τ 44 (upd (τ 44) 1 (nI v))))) 44) (mU M 4 v) ∧ ∀ q, (q < 33 ∨ 45 ≤ q) → (g_X1_sailOn N 33 44 (nI n) (g_X1_take N 33 3 (tw_sr τ 44 (upd (τ 44) 1 (nI v))))) q = τ q := by
  have hM1 := ok.2.1
  have okv := okT_mU (j := 4) (v := v) ok (by decide) (by decide) (by decide) hv
  have m1 : mU M 4 v 1 = M 1 := mU_ne (by decide)
  obtain ⟨f1, f2, f3, f4⟩ := c_ftake (N := N) (f := 33) (o := 3) (m := M 1) (τ := tw_sr τ 44 (upd (τ 44) 1 (nI v))) hM1 (by omega) (by rw [sr_ne (by decide)]; exact hn) (by omega)
  generalize hA : g_X1_take N 33 3 (tw_sr τ 44 (upd (τ 44) 1 (nI v))) = A at *
  have lA : litR (A 44) (mU M 4 v) := by
    rw [f1 44 (by omega), sr_self]
    obtain ⟨h0, h1, h2, h3, h4⟩ := hl
    unfold litR at *
    rw [mU_ne (by decide)] at h0 h2 h3 h4
    rw [mU_ne (by decide), mU_self, mU_ne (by decide), mU_ne (by decide), mU_ne (by decide), pk_us]
    exact ⟨by rw [pk_un (by decide)]; exact h0, rfl, by rw [pk_un (by decide)]; exact h2, by rw [pk_un (by decide)]; exact h3, by rw [pk_un (by decide)]; exact h4⟩
  have sA : ∀ j, j < M 1 → shR (A (33 + 2 + j)) (shipN (mU M 4 v) j) := fun j hj f hf => by
    rw [f3 j hj f hf, sr_ne (by omega), show 3 + 2 + j = 1 + 4 + j by omega, hs j hj f hf]
    unfold shipN
    rw [mU_ne (by omega)]
  obtain ⟨⟨s1, s2⟩, s3⟩ := c_fsailOn (N := N) (f := 33) (o := 44) (m := M 1) (n := n) (M := mU M 4 v) (S := fun j => shipN (mU M 4 v) j) (τ := A) (okT_L okv) hM1 (by rw [mU_ne (by decide)]; exact hT) (fun j hj => okT_S okv (by omega)) (by omega) (by omega) hN2 f2 lA sA
  generalize hB : g_X1_sailOn N 33 44 (nI n) A = B at *
  have nB : B 33 1 = nI (M 1) := by rw [s1 33 (by omega)]; exact f2
  obtain ⟨t1, t2⟩ := c_str (N := N) (f := 33) (g := fun j => tk (mU M 4 v) n (17 + 7 * j + 5)) (τ := B) hM1 nB (fun j hj => by
    rw [s2 j hj 5 (by decide), tk_ship (mU M 4 v) (by rw [m1]; exact hj) n 5 (by decide)]) (by omega)
  refine ⟨?_, f4, s3, t2, ?_, fun q hq => ?_⟩
  · rw [t1]
    unfold lagW strA
    rw [tk_lo _ n (j := 1) (by decide) (by decide) (by decide), m1]
  · rw [s1 44 (by omega)]; exact lA
  · rw [s1 q (by omega), f1 q (by omega), sr_ne (by omega)]
theorem l_lag {N T n : Nat} {M : Nat → Nat} {x1 : Int32} (hx : x1 = nI n) (ok : okT T M) (hT : M 0 + n ≤ 99999) (hN : 9 ≤ N) (hN2 : n < N) : ∀ d k fuel (τ : tw_T) (w : Nat), k + 1 + d = 24 → d < fuel → litR (τ 44) (mU M 4 w) → τ 3 1 = nI (M 1) → (∀ i, i < M 1 → shR (τ (1 + 4 + i)) (shipN M i)) →
    lf_X8_lagFor_39 N fuel x1 (nI (bs (lagW M n) k).1) (nI (bs (lagW M n) k).2) (nI (k + 1)) τ = nI (bs (lagW M n) 23).1 ∧ (∀ q, (q < 33 ∨ 45 ≤ q) → lg_X8_lagFor_39 N fuel x1 (nI (bs (lagW M n) k).1) (nI (bs (lagW M n) k).2) (nI (k + 1)) τ q = τ q) ∧ lo_X8_lagFor_39 N fuel x1 (nI (bs (lagW M n) k).1) (nI (bs (lagW M n) k).2) (nI (k + 1)) τ := by
  have hM1 := ok.2.1
  subst hx
  intro d
  induction d with
  | zero =>
    intro k fuel τ w hk hf hl hn hs
    obtain ⟨u, rfl⟩ : ∃ u, fuel = u + 1 := ⟨fuel - 1, by omega⟩
    have e : k = 23 := by omega
    subst e
    have hlt : (23 : Int32) < nI (23 + 1) := by decide
    rw [lf_X8_lagFor_39, lg_X8_lagFor_39, lo_X8_lagFor_39, if_pos hlt, if_pos hlt, if_pos hlt]
    exact ⟨rfl, fun _ _ => rfl, trivial⟩
  | succ d ih =>
    intro k fuel τ w hk hf hl hn hs
    obtain ⟨u, rfl⟩ : ∃ u, fuel = u + 1 := ⟨fuel - 1, by omega⟩
    have hnlt : ¬ (23 : Int32) < nI (k + 1) := nI_nlt (a := 23) (b := k + 1) (by omega) (by decide)
    obtain ⟨e1, e2, e3, e4, e5, e6⟩ := c_lag (N := N) (n := n) (v := k + 1) ok hT hN hN2 (by omega) hl hn hs
    have gB := lagW_lt (n := n) (v := k + 1) ok (by omega)
    obtain ⟨b1, b2⟩ := bs_le (lagW M n) (B := 80000) k (fun v hv => lagW_lt ok (by omega))
    rw [lf_X8_lagFor_39, lg_X8_lagFor_39, lo_X8_lagFor_39, if_neg hnlt, if_neg hnlt, if_neg hnlt, e1]
    rw [nI_1]
    generalize hB : g_X1_sailOn N 33 44 (nI n) (g_X1_take N 33 3 (tw_sr τ 44 (upd (τ 44) 1 (nI (k + 1))))) = B at *
    obtain ⟨a1, a2, a3⟩ := ih (k + 1) u B (k + 1) (by omega) (by omega) e5 (by rw [e6 3 (by omega)]; exact hn) (fun i hi => by rw [e6 (1 + 4 + i) (by omega)]; exact hs i hi)
    by_cases c : lagW M n (k + 1) < (bs (lagW M n) k).2
    · have hle : ¬ nI (bs (lagW M n) k).2 ≤ nI (lagW M n (k + 1)) := nI_ge c (by omega)
      have eb : bs (lagW M n) (k + 1) = (k + 1, lagW M n (k + 1)) := if_pos c
      rw [eb] at a1 a2 a3
      rw [if_neg hle, if_neg hle, if_neg hle]
      exact ⟨a1, fun q hq => by rw [a2 q hq, e6 q hq], e2, e3, e4, a3⟩
    · have hle : nI (bs (lagW M n) k).2 ≤ nI (lagW M n (k + 1)) := nI_le (by omega) (by omega)
      have eb : bs (lagW M n) (k + 1) = bs (lagW M n) k := if_neg c
      rw [eb] at a1 a2 a3
      rw [if_pos hle, if_pos hle, if_pos hle]
      exact ⟨a1, fun q hq => by rw [a2 q hq, e6 q hq], e2, e3, e4, a3⟩
theorem st_lagFor {c N : Nat} {τ : tw_T} (hI : Inv c τ) (hc : c < 512) (hN : 5000 ≤ N) (x1 : Int32) : p_X8_lagFor N x1 τ ∧ p_X9_lagFor N x1 (g_X8_lagFor N x1 τ) ∧ f_X8_lagFor N x1 τ = f_X9_lagFor N x1 (g_X8_lagFor N x1 τ) ∧ Inv (c + 1) (g_X9_lagFor N x1 (g_X8_lagFor N x1 τ)) := by
  obtain ⟨M, ok, row, spt, ⟨hl, hn, hs⟩, hz⟩ := inv_M hI
  have hM1 := ok.2.1
  have hM0 := ok.1
  obtain ⟨q1, q2⟩ := fail_B hI hc
  unfold p_X8_lagFor p_X9_lagFor f_X9_lagFor g_X9_lagFor f_X8_lagFor g_X8_lagFor
  by_cases h : f_X8_within x1 0 60 τ = 0
  · have h9 : ∀ τ', f_X9_isThought x1 τ' = 0 := fun τ' => h
    simp only [h, h9, if_true]
    exact ⟨trivial, ⟨q1, trivial⟩, rfl, q2⟩
  have h9 : ∀ τ', ¬ f_X9_isThought x1 τ' = 0 := fun τ' => h
  obtain ⟨n, hn60, rfl⟩ := w_of (n := 60) rfl (by decide) h
  simp only [h, h9, if_false]
  obtain ⟨r, t1, t2⟩ := l_take (τ := τ) (k := 44) (o := 2) (by decide)
  rw [t1]
  have hl44 : litR ((tw_sr τ 44 r) 44) (mU M 4 (M 4)) := by
    rw [sr_self]
    obtain ⟨h0, h1, h2, h3, h4⟩ := hl
    unfold litR
    rw [mU_ne (by decide), mU_self, mU_ne (by decide), mU_ne (by decide), mU_ne (by decide)]
    exact ⟨(t2 0 (by decide)).trans h0, (t2 1 (by decide)).trans h1, (t2 2 (by decide)).trans h2, (t2 3 (by decide)).trans h3, (t2 4 (by decide)).trans h4⟩
  have hn' : (tw_sr τ 44 r) 3 1 = nI (M 1) := by rw [sr_ne (by decide)]; exact hn
  have hs' : ∀ i, i < M 1 → shR ((tw_sr τ 44 r) (1 + 4 + i)) (shipN M i) := fun i hi => by rw [sr_ne (by omega)]; exact hs i hi
  obtain ⟨P, rfl⟩ : ∃ P, N = P + 1 := ⟨N - 1, by omega⟩
  obtain ⟨e1, e2, e3, e4, e5, e6⟩ := c_lag (N := P + 1) (n := n) (v := 0) ok (by omega) (by omega) (by omega) (by decide) hl44 hn' hs'
  have gB := lagW_lt (n := n) (v := 0) ok (by decide)
  have hle : ¬ (79993 : Int32) ≤ nI (lagW M n 0) ∨ 79993 ≤ lagW M n 0 := by
    by_cases c : 79993 ≤ lagW M n 0
    · exact Or.inr c
    · exact Or.inl (nI_ge (a := lagW M n 0) (b := 79993) (by omega) (by decide))
  have lt : lagW M n 0 < 79993 := by
    have okv := okT_tk (okT_mU (j := 4) (v := 0) ok (by decide) (by decide) (by decide) (by decide)) n
    have h1 := okv.2.1
    have h2 : strA (tk (mU M 4 0) n) ≤ (tk (mU M 4 0) n) 1 * 9999 := smN_le (fun j hj => by
      have := okv.2.2 (17 + 7 * j + 5) (by omega) (by omega) (by omega)
      rw [bd_ship (by decide)] at this
      exact Nat.le_of_lt_succ this)
    have h3 : (tk (mU M 4 0) n) 1 * 9999 ≤ 8 * 9999 := Nat.mul_le_mul_right _ h1
    show strA (tk (mU M 4 0) n) < 79993
    omega
  have hle' : ¬ (79993 : Int32) ≤ nI (lagW M n 0) := nI_ge (a := lagW M n 0) (b := 79993) lt (by decide)
  have hnlt : ¬ (23 : Int32) < nI 0 := by decide
  have z0 : (0 : Int32) = nI 0 := rfl
  have e1' : f_X1_strandedOfAll (P + 1) 33 (g_X1_sailOn (P + 1) 33 44 (nI n) (g_X1_take (P + 1) 33 3 (tw_sr (tw_sr τ 44 r) 44 (upd ((tw_sr τ 44 r) 44) 1 0)))) = nI (lagW M n 0) := e1
  generalize hB : g_X1_sailOn (P + 1) 33 44 (nI n) (g_X1_take (P + 1) 33 3 (tw_sr (tw_sr τ 44 r) 44 (upd ((tw_sr τ 44 r) 44) 1 (nI 0)))) = B at *
  obtain ⟨a1, a2, a3⟩ := l_lag (N := P + 1) (n := n) (x1 := nI n) rfl ok (by omega) (by omega) (by omega) 23 0 P B 0 (by omega) (by omega) e5 (by rw [e6 3 (by omega)]; exact hn') (fun i hi => by rw [e6 (1 + 4 + i) (by omega)]; exact hs' i hi)
  have F8 : lf_X8_lagFor_39 (P + 1) (P + 1) (nI n) 0 79993 0 (tw_sr τ 44 r) = nI (bs (lagW M n) 23).1 ∧ lg_X8_lagFor_39 (P + 1) (P + 1) (nI n) 0 79993 0 (tw_sr τ 44 r) = lg_X8_lagFor_39 (P + 1) P (nI n) (nI (bs (lagW M n) 0).1) (nI (bs (lagW M n) 0).2) (nI (0 + 1)) B ∧ lo_X8_lagFor_39 (P + 1) (P + 1) (nI n) 0 79993 0 (tw_sr τ 44 r) := by
    have hnlt' : ¬ (23 : Int32) < 0 := by decide
    have hB' : g_X1_sailOn (P + 1) 33 44 (nI n) (g_X1_take (P + 1) 33 3 (tw_sr (tw_sr τ 44 r) 44 (upd ((tw_sr τ 44 r) 44) 1 0))) = B := hB
    rw [lf_X8_lagFor_39, lg_X8_lagFor_39, lo_X8_lagFor_39, if_neg hnlt', if_neg hnlt', if_neg hnlt', hB', e1, if_neg hle', if_neg hle', if_neg hle']
    exact ⟨a1, rfl, e2, e3, e4, a3⟩
  obtain ⟨F1, F2, F3⟩ := F8
  rw [F1, F2]
  generalize hG : lg_X8_lagFor_39 (P + 1) P (nI n) (nI (bs (lagW M n) 0).1) (nI (bs (lagW M n) 0).2) (nI (0 + 1)) B = G at *
  have Gq : ∀ q, (q < 33 ∨ 45 ≤ q) → G q = τ q := fun q hq => by rw [a2 q hq, e6 q hq, sr_ne (by omega)]
  obtain ⟨b1, ⟨Y, b2⟩, b3⟩ := ml_lsa0 (N := P + 1) (p := 4) (V := 24) (n := n) (B := 80000) (G := lagW M n) (τ := G) (by decide) (by decide) (by decide) (by omega) (by decide) (fun v hv => lagW_lt ok hv) (fun v hv Y => by
    have okv := okT_mU (j := 4) (v := v) ok (by decide) (by decide) (by decide) hv
    obtain ⟨c1, c2, c3⟩ := m_strBehind (N := P + 1) (n := n) (τ := thk G Y 4 (nI v)) okv (by omega) (by omega) (by omega) (by rw [thk_191, Gq 191 (by decide)]; exact rowT_mU row)
    refine ⟨c1, ⟨_, by rw [c2, thk_193]⟩, c3⟩)
  have b1' : f_X9_leastFor (P + 1) 4 24 (-1) (nI n) G = _ := b1
  have b2' : g_X9_leastFor (P + 1) 4 24 (-1) (nI n) G = _ := b2
  refine ⟨F3, ⟨b3, trivial⟩, b1'.symm, ?_⟩
  rw [b2']
  refine Inv_same hI hc (fun k hk => ?_)
  unfold keepC at hk
  rw [sr_ne (by omega), Gq k (by omega)]
