/-! ===== the calls: strands, when, meet ===== -/
/-- the first i at which p holds, of d places -/
def seek (p : Nat → Bool) : Nat → Nat → Option Nat
  | 0, _ => none
  | d + 1, i => if p i then some i else seek p d (i + 1)
def resI (r : Option Nat) : Int32 := match r with
  | some n => nI n
  | none => -1000004
theorem m_back {N : Nat} {τ : tw_T} {R : Nat → Int32} (hN : 74 ≤ N) (h : oth R (τ 191)) : g_X9_copyRow N 193 191 (tw_sr (tw_sr τ 193 (cpR (τ 191) (τ 193))) 191 R) = tw_sr τ 193 (cpR (τ 191) (τ 193)) ∧ p_X9_copyRow N 193 191 (tw_sr (tw_sr τ 193 (cpR (τ 191) (τ 193))) 191 R) := by
  obtain ⟨c3, c4⟩ := m_cp (N := N) (ra := 193) (rb := 191) (τ := tw_sr (tw_sr τ 193 (cpR (τ 191) (τ 193))) 191 R) (by decide) (by omega)
  refine ⟨?_, c4⟩
  rw [c3, sr_sr, sr_ne (by decide), sr_self, sr_self, cp_back (fun j hj => h j (Or.inr (Or.inr hj)))]
  have e : (tw_sr τ 193 (cpR (τ 191) (τ 193))) 191 = τ 191 := sr_ne (by decide)
  have e2 := sr_id (tw_sr τ 193 (cpR (τ 191) (τ 193))) 191
  rw [e] at e2
  exact e2
/-- a ship under trial is carried one tick on -/
theorem c_tickOn {k i T : Nat} {M s : Nat → Nat} {τ : tw_T} (ok : okL T M) (os : okS s) (hT : M 0 + i + 1 ≤ 99999) (hk : 2 ≠ k) (hl : litR (τ 2) M) (hs : shR (τ k) (sailK M s i)) : ∃ r, g_X8_sailTick k (nI i) τ = tw_sr τ k r ∧ shR r (sailK M s (i + 1)) := by
  unfold g_X8_sailTick
  rw [l_shown hl ok (by omega), l_tick hl (by omega)]
  exact c_sail (t := M 0 + i) hs (okS_sailK os i) (shN_lt _) (by omega)
theorem sail5 {s : Nat → Nat} {sh t : Nat} (h : s 5 < 10000) : s 5 ≤ sailN sh t s 5 := by
  have em : ∀ b (u : Nat → Nat), u 5 < 10000 → u 5 ≤ moveN b u 5 := by
    intro b u hu
    unfold moveN
    split
    · show u 5 ≤ minN 9999 (u 5 + 1)
      unfold minN
      split <;> omega
    · exact Nat.le_refl _
  unfold sailN
  split
  · exact Nat.le_refl _
  · split
    · exact Nat.le_refl _
    · exact em (goN s t) (steerN (seeN s sh t) s) h
theorem sailK5 {M s : Nat → Nat} (os : okS s) (i : Nat) : sailK M s i 5 ≤ sailK M s (i + 1) 5 := sail5 (okS_sailK os i).2.2.2.2.2.1
theorem sailK5_0 {M s : Nat → Nat} (os : okS s) : ∀ i, s 5 ≤ sailK M s i 5
  | 0 => Nat.le_refl _
  | i + 1 => Nat.le_trans (sailK5_0 os i) (sailK5 os i)
theorem l_strands {N T : Nat} {M s : Nat → Nat} {x1 : Int32} (ok : okL T M) (os : okS s) (hT : M 0 + 300 ≤ 99999) : ∀ d i fuel (τ : tw_T), i + d = 200 → d < fuel → litR (τ 2) M → shR (τ 45) (sailK M s i) → sailK M s i 5 = s 5 →
    lf_X8_strands_44 N fuel x1 (nI (s 5)) (nI (i + 1)) τ = resI (seek (fun n => decide (sailK M s n 5 ≠ s 5)) d (i + 1)) ∧ (∃ r, lg_X8_strands_44 N fuel x1 (nI (s 5)) (nI (i + 1)) τ = (if (seek (fun n => decide (sailK M s n 5 ≠ s 5)) d (i + 1)).isSome then tw_sr τ 45 r else g_X8_found (-1000004) (tw_sr τ 45 r))) ∧ lo_X8_strands_44 N fuel x1 (nI (s 5)) (nI (i + 1)) τ := by
  intro d
  induction d with
  | zero =>
    intro i fuel τ hi hf hl hs h5
    obtain ⟨u, rfl⟩ : ∃ u, fuel = u + 1 := ⟨fuel - 1, by omega⟩
    have e : i = 200 := by omega
    subst e
    have hlt : (200 : Int32) < nI (200 + 1) := by decide
    rw [lf_X8_strands_44, lg_X8_strands_44, lo_X8_strands_44, if_pos hlt, if_pos hlt, if_pos hlt]
    refine ⟨rfl, ⟨τ 45, ?_⟩, trivial⟩
    rw [sr_id]
    rfl
  | succ d ih =>
    intro i fuel τ hi hf hl hs h5
    obtain ⟨u, rfl⟩ : ∃ u, fuel = u + 1 := ⟨fuel - 1, by omega⟩
    have hnlt : ¬ (200 : Int32) < nI (i + 1) := nI_nlt (a := 200) (b := i + 1) (by omega) (by decide)
    have b5 : s 5 < 10000 := os.2.2.2.2.2.1
    obtain ⟨r, t1, t2⟩ := c_tickOn (k := 45) (i := i) ok os (by omega) (by decide) hl hs
    rw [lf_X8_strands_44, lg_X8_strands_44, lo_X8_strands_44, if_neg hnlt, if_neg hnlt, if_neg hnlt, nI_pred, t1, sr_self, t2 5 (by decide)]
    have b5' : sailK M s (i + 1) 5 < 10000 := (okS_sailK os (i + 1)).2.2.2.2.2.1
    have mono := sailK5_0 (M := M) os (i + 1)
    by_cases c : sailK M s (i + 1) 5 = s 5
    · have hle : nI (sailK M s (i + 1) 5) ≤ nI (s 5) := nI_le (by omega) (by omega)
      rw [if_pos hle, if_pos hle, if_pos hle, nI_1]
      obtain ⟨a1, ⟨r', a2⟩, a3⟩ := ih (i + 1) u (tw_sr τ 45 r) (by omega) (by omega) (by rw [sr_ne (by decide)]; exact hl) (by rw [sr_self]; exact t2) c
      have es : seek (fun n => decide (sailK M s n 5 ≠ s 5)) (d + 1) (i + 1) = seek (fun n => decide (sailK M s n 5 ≠ s 5)) d (i + 1 + 1) := by
        show (if decide (sailK M s (i + 1) 5 ≠ s 5) then _ else _) = _
        simp [c]
      rw [es]
      exact ⟨a1, ⟨r', by rw [a2, sr_sr]⟩, a3⟩
    · have hgt : ¬ nI (sailK M s (i + 1) 5) ≤ nI (s 5) := nI_ge (by omega) (by omega)
      rw [if_neg hgt, if_neg hgt, if_neg hgt]
      have es : seek (fun n => decide (sailK M s n 5 ≠ s 5)) (d + 1) (i + 1) = some (i + 1) := by
        show (if decide (sailK M s (i + 1) 5 ≠ s 5) then _ else _) = _
        simp [c]
      rw [es]
      exact ⟨rfl, ⟨r, rfl⟩, trivial⟩
theorem ml_strands {N T x : Nat} {M : Nat → Nat} {τ : tw_T} (ok : okT T M) (hT : T + 300 < 2 ^ 30) (hN : 74 ≤ N) (row : rowT (τ 191) M) (hx : x < M 1) (had : Nat) (hhad : had < 10000) : ∀ d i fuel (R : Nat → Int32), i + d = 200 → d < fuel → rowT R (tk M i) → oth R (τ 191) →
    lf_X9_strands_35 N fuel (nI x) (nI had) (nI i) (tw_sr (tw_sr τ 193 (cpR (τ 191) (τ 193))) 191 R) = resI (seek (fun n => decide (tk M n (17 + 7 * x + 5) ≠ had)) (d + 1) i) ∧
    lg_X9_strands_35 N fuel (nI x) (nI had) (nI i) (tw_sr (tw_sr τ 193 (cpR (τ 191) (τ 193))) 191 R) = (if (seek (fun n => decide (tk M n (17 + 7 * x + 5) ≠ had)) (d + 1) i).isSome then tw_sr τ 193 (cpR (τ 191) (τ 193)) else g_X9_finding (-1000004) (tw_sr τ 193 (cpR (τ 191) (τ 193)))) ∧
    (p_X9_finding (-1000004) (tw_sr τ 193 (cpR (τ 191) (τ 193))) → lo_X9_strands_35 N fuel (nI x) (nI had) (nI i) (tw_sr (tw_sr τ 193 (cpR (τ 191) (τ 193))) 191 R)) := by
  have hM1 := ok.2.1
  have nn : ∀ i, i ≤ 200 → (0 : Int32) ≤ nI i := fun i h => nI_pos' (by omega)
  have n1 : ¬ (0 : Int32) ≤ -1 := by decide
  intro d
  induction d with
  | zero =>
    intro i fuel R hi hf hr ho
    obtain ⟨u, rfl⟩ : ∃ u, fuel = u + 1 := ⟨fuel - 1, by omega⟩
    have e : i = 200 := by omega
    subst e
    have hle : (200 : Int32) ≤ nI 200 := by decide
    obtain ⟨k1, k2⟩ := m_back (N := N) (τ := τ) hN ho
    have okn := okT_tk ok 200
    have bnd : tk M 200 (17 + 7 * x + 5) < 10000 := (okT_S okn (i := x) (by omega)).2.2.2.2.2.1
    have es : f_X9_shipIs (nI x) 5 (tw_sr (tw_sr τ 193 (cpR (τ 191) (τ 193))) 191 R) = nI (tk M 200 (17 + 7 * x + 5)) := by
      rw [q_5, m_is (by omega), sr_self, hr _ (by omega) (by omega)]
    have ps : p_X9_shipIs (nI x) 5 (tw_sr (tw_sr τ 193 (cpR (τ 191) (τ 193))) 191 R) := m_pis (f := 5) (by omega) _
    rw [lf_X9_strands_35, lg_X9_strands_35, lo_X9_strands_35, if_pos hle, if_pos hle, if_pos hle, es]
    unfold f_X9_putBack g_X9_putBack p_X9_putBack f_X9_orNone g_X9_orNone p_X9_orNone
    rw [k1]
    by_cases c : tk M 200 (17 + 7 * x + 5) = had
    · have c' : nI (tk M 200 (17 + 7 * x + 5)) = nI had := by rw [c]
      have sk : seek (fun n => decide (tk M n (17 + 7 * x + 5) ≠ had)) (0 + 1) 200 = none := by
        show (if decide (tk M 200 (17 + 7 * x + 5) ≠ had) then _ else _) = _
        simp [c, seek]
      rw [sk, if_pos c', if_pos c', if_pos c', if_neg n1, if_neg n1, if_neg n1]
      exact ⟨rfl, rfl, fun pf => ⟨ps, ⟨k2, trivial⟩, ⟨pf, trivial⟩, trivial⟩⟩
    · have c' : ¬ nI (tk M 200 (17 + 7 * x + 5)) = nI had := fun q => c ((nI_eq (by omega) (by omega)).mp q)
      have sk : seek (fun n => decide (tk M n (17 + 7 * x + 5) ≠ had)) (0 + 1) 200 = some 200 := by
        show (if decide (tk M 200 (17 + 7 * x + 5) ≠ had) then _ else _) = _
        simp [c]
      rw [sk, if_neg c', if_neg c', if_neg c', if_pos (nn 200 (by omega)), if_pos (nn 200 (by omega)), if_pos (nn 200 (by omega))]
      exact ⟨rfl, rfl, fun pf => ⟨ps, ⟨k2, trivial⟩, trivial, trivial⟩⟩
  | succ d ih =>
    intro i fuel R hi hf hr ho
    obtain ⟨u, rfl⟩ : ∃ u, fuel = u + 1 := ⟨fuel - 1, by omega⟩
    have hgt : ¬ (200 : Int32) ≤ nI i := nI_ge (a := i) (b := 200) (by omega) (by decide)
    obtain ⟨k1, k2⟩ := m_back (N := N) (τ := τ) hN ho
    have okn := okT_tk ok i
    have bnd : tk M i (17 + 7 * x + 5) < 10000 := (okT_S okn (i := x) (by omega)).2.2.2.2.2.1
    have es : f_X9_shipIs (nI x) 5 (tw_sr (tw_sr τ 193 (cpR (τ 191) (τ 193))) 191 R) = nI (tk M i (17 + 7 * x + 5)) := by
      rw [q_5, m_is (by omega), sr_self, hr _ (by omega) (by omega)]
    have ps : p_X9_shipIs (nI x) 5 (tw_sr (tw_sr τ 193 (cpR (τ 191) (τ 193))) 191 R) := m_pis (f := 5) (by omega) _
    rw [lf_X9_strands_35, lg_X9_strands_35, lo_X9_strands_35, if_neg hgt, if_neg hgt, if_neg hgt, es]
    by_cases c : tk M i (17 + 7 * x + 5) = had
    · have c' : nI (tk M i (17 + 7 * x + 5)) = nI had := by rw [c]
      obtain ⟨R', t1, t2, t3, t4⟩ := m_tick (N := N) (τ := tw_sr (tw_sr τ 193 (cpR (τ 191) (τ 193))) 191 R) okn (by omega) (by omega) (by rw [sr_self]; exact hr)
      rw [sr_self] at t3
      rw [if_pos c', if_pos c', if_pos c', nI_1, t1, sr_sr]
      obtain ⟨a1, a2, a3⟩ := ih (i + 1) u R' (by omega) (by omega) t2 (fun j hj => (t3 j hj).trans (ho j hj))
      have sk : seek (fun n => decide (tk M n (17 + 7 * x + 5) ≠ had)) (d + 1 + 1) i = seek (fun n => decide (tk M n (17 + 7 * x + 5) ≠ had)) (d + 1) (i + 1) := by
        show (if decide (tk M i (17 + 7 * x + 5) ≠ had) then _ else _) = _
        simp [c]
      rw [sk]
      exact ⟨a1, a2, fun pf => ⟨ps, t4, a3 pf⟩⟩
    · have c' : ¬ nI (tk M i (17 + 7 * x + 5)) = nI had := fun q => c ((nI_eq (by omega) (by omega)).mp q)
      have sk : seek (fun n => decide (tk M n (17 + 7 * x + 5) ≠ had)) (d + 1 + 1) i = some i := by
        show (if decide (tk M i (17 + 7 * x + 5) ≠ had) then _ else _) = _
        simp [c]
      unfold f_X9_putBack g_X9_putBack p_X9_putBack f_X9_orNone g_X9_orNone p_X9_orNone
      rw [k1, sk]
      simp only [c', if_false]
      rw [if_pos (nn i (by omega)), if_pos (nn i (by omega)), if_pos (nn i (by omega))]
      exact ⟨rfl, rfl, fun pf => ⟨ps, ps, ⟨k2, trivial⟩, trivial, trivial⟩⟩
theorem seek_skip {p q : Nat → Bool} : ∀ d i, (∀ n, i ≤ n → n < i + d → p n = q n) → seek p d i = seek q d i
  | 0, _, _ => rfl
  | d + 1, i, h => by
    show (if p i then _ else _) = (if q i then _ else _)
    rw [h i (Nat.le_refl i) (by omega), seek_skip d (i + 1) (fun n a b => h n (by omega) (by omega))]
/-- a scratch cell of the class, the put-back row of the reference: nothing else has changed -/
theorem inv_scratch {c : Nat} {τ : tw_T} (hI : Inv c τ) (hc : c < 512) {k : Nat} (hk : 44 ≤ k ∧ k ≤ 46) (r Y : Nat → Int32) : Inv c (tw_sr (tw_sr τ k r) 193 Y) := by
  obtain ⟨h0, h1, h2, h3, h4, h5, h6⟩ := hI
  have e : ∀ q, (q ≤ 43 ∨ 47 ≤ q) → q ≠ 193 → (tw_sr (tw_sr τ k r) 193 Y) q = τ q := fun q a b => by rw [sr_ne b, sr_ne (by omega)]
  exact ⟨h0, I_sea_congr (fun q a b => e q (by omega) (by omega)) (e _ (by decide) (by decide)) h1, I_kept_congr (by rw [e _ (by decide) (by decide)]) (by rw [e _ (by decide) (by decide)]) (fun q a b => e q (by omega) (by omega)) (e _ (by decide) (by decide)) h2, I_tape_congr (by rw [e _ (by decide) (by decide)]) (by rw [e _ (by decide) (by decide)]) (e _ (by decide) (by decide)) (e _ (by decide) (by decide)) h3, I_sheet_congr (fun q a b => e q (by omega) (by omega)) (e _ (by decide) (by decide)) (e _ (by decide) (by decide)) (e _ (by decide) (by decide)) h4, I_fnd_congr (e _ (by decide) (by decide)) (e _ (by decide) (by decide)) h5, I_dem_congr (e _ (by decide) (by decide)) h6⟩
