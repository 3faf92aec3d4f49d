/-! ===== the calls: strands, when, meet, closed ===== -/
theorem found_193 {F : Int32} {j : Nat} {τ : tw_T} {Y : Nat → Int32} (hj : j < 7) (h : (-1000001) - F = nI j) : tw_sr (g_X8_found F τ) 193 Y = g_X8_found F (tw_sr τ 193 Y) := by
  rw [found8 hj h, found8 hj h, sr_comm (by decide), sr_ne (by decide)]
theorem cp_start {N : Nat} {τ : tw_T} (hN : 74 ≤ N) : g_X9_copyRow N 191 193 τ = tw_sr (tw_sr τ 193 (cpR (τ 191) (τ 193))) 191 (τ 191) ∧ p_X9_copyRow N 191 193 τ := by
  obtain ⟨c1, c2⟩ := m_cp (N := N) (ra := 191) (rb := 193) (τ := τ) (by decide) (by omega)
  refine ⟨?_, c2⟩
  rw [c1]
  have e : (tw_sr τ 193 (cpR (τ 191) (τ 193))) 191 = τ 191 := sr_ne (by decide)
  have e2 := sr_id (tw_sr τ 193 (cpR (τ 191) (τ 193))) 191
  rw [e] at e2
  exact e2.symm
/-- the end of a search ahead: the answer, or NONE, on both sides -/
theorem seek_fin {c : Nat} {τ G H : tw_T} {k : Nat} {r : Nat → Int32} {o : Option Nat} (hI : Inv c τ) (hc : c < 512) (hk : 44 ≤ k ∧ k ≤ 46) (hG : G = if o.isSome then tw_sr τ k r else g_X8_found (-1000004) (tw_sr τ k r)) (hH : H = if o.isSome then tw_sr G 193 (cpR (G 191) (G 193)) else g_X9_finding (-1000004) (tw_sr G 193 (cpR (G 191) (G 193)))) :
    Inv (c + 1) H ∧ p_X9_finding (-1000004) (tw_sr G 193 (cpR (G 191) (G 193))) := by
  cases o with
  | some n =>
    have hG' : G = tw_sr τ k r := hG
    have hH' : H = tw_sr G 193 (cpR (G 191) (G 193)) := hH
    refine ⟨?_, (find9 (j := 3) (τ := tw_sr G 193 (cpR (G 191) (G 193))) (by decide) (by decide)).1⟩
    rw [hH', hG']
    exact Inv_mono (inv_scratch hI hc hk _ _) hc
  | none =>
    have hG' : G = g_X8_found (-1000004) (tw_sr τ k r) := hG
    have hH' : H = g_X9_finding (-1000004) (tw_sr G 193 (cpR (G 191) (G 193))) := hH
    rw [hH', hG', found_193 (j := 3) (by decide) (by decide)]
    have := fail_N (inv_scratch hI hc hk r (cpR (g_X8_found (-1000004) (tw_sr τ k r) 191) (g_X8_found (-1000004) (tw_sr τ k r) 193))) hc
    exact ⟨this.2, this.1⟩
theorem seek_191 {τ G : tw_T} {k : Nat} {r : Nat → Int32} {o : Option Nat} (hk : 44 ≤ k ∧ k ≤ 46) (hG : G = if o.isSome then tw_sr τ k r else g_X8_found (-1000004) (tw_sr τ k r)) : G 191 = τ 191 := by
  rw [hG]
  split
  · exact sr_ne (by omega)
  · rw [found_ne (by decide)]
    exact sr_ne (by omega)
theorem st_strands {c N : Nat} {τ : tw_T} (hI : Inv c τ) (hc : c < 512) (hN : 5000 ≤ N) (x1 : Int32) : p_X8_strands N x1 τ ∧ p_X9_strands N x1 (g_X8_strands N x1 τ) ∧ f_X8_strands N x1 τ = f_X9_strands N x1 (g_X8_strands N x1 τ) ∧ Inv (c + 1) (g_X9_strands N x1 (g_X8_strands N x1 τ)) := by
  obtain ⟨M, ok, row, spt, ⟨hl, hn, hs⟩, hz⟩ := inv_M hI
  have hM1 := ok.2.1
  have hM0 := ok.1
  have r1 : τ 191 1 = nI (M 1) := row 1 (by decide) (by decide)
  obtain ⟨q1, q2⟩ := fail_B hI hc
  have rf : (g_X8_found ((-1000001)) τ) 191 1 = nI (M 1) := by rw [found_ne (by decide)]; exact r1
  unfold p_X8_strands p_X9_strands f_X9_strands g_X9_strands f_X8_strands g_X8_strands
  rcases isShip_or (τ := τ) hn hM1 x1 with ⟨a, b⟩ | ⟨i, hi, rfl, a, b⟩
  · simp only [a, b _ rf, if_true]
    exact ⟨trivial, ⟨q1, trivial⟩, rfl, q2⟩
  · have os := okT_S ok (i := i) (by omega)
    have ei : (nI i).toNatClampNeg = i := nI_clamp (by omega)
    have ek : 3 + 2 + i = 1 + 4 + i := by omega
    simp only [a, ei, ek, if_false]
    obtain ⟨r, t1, t2⟩ := c_take (τ := τ) (k := 45) (o := 1 + 4 + i) (by omega)
    have hsr : shR ((tw_sr τ 45 r) 45) (shipN M i) := by rw [sr_self]; intro f hf; rw [t2 f hf]; exact hs i hi f hf
    rw [t1, hsr 5 (by decide)]
    obtain ⟨a1, ⟨r', a2⟩, a3⟩ := l_strands (N := N) (x1 := nI i) (M := M) (s := shipN M i) (okT_L ok) os (by omega) 200 0 N (tw_sr τ 45 r) (by omega) (by omega) (by rw [sr_ne (by decide)]; exact hl) hsr rfl
    rw [sr_sr] at a2
    have a1' : lf_X8_strands_44 N N (nI i) (nI (shipN M i 5)) 1 (tw_sr τ 45 r) = _ := a1
    have a2' : lg_X8_strands_44 N N (nI i) (nI (shipN M i 5)) 1 (tw_sr τ 45 r) = _ := a2
    have a3' : lo_X8_strands_44 N N (nI i) (nI (shipN M i 5)) 1 (tw_sr τ 45 r) := a3
    generalize hGe : lg_X8_strands_44 N N (nI i) (nI (shipN M i 5)) 1 (tw_sr τ 45 r) = G at *
    have g191 := seek_191 (by decide) a2'
    obtain ⟨cp1, cp2⟩ := cp_start (N := N) (τ := G) (by omega)
    have hh := b G (by rw [g191]; exact r1)
    have had : f_X9_shipIs (nI i) 5 (g_X9_copyRow N 191 193 G) = nI (shipN M i 5) := by
      rw [cp1, q_5, m_is (by omega), sr_self, g191, row _ (by omega) (by omega)]
      rfl
    rw [if_neg hh, if_neg hh, if_neg hh, had, cp1]
    have b5 : shipN M i 5 < 10000 := os.2.2.2.2.2.1
    obtain ⟨b1, b2, b3⟩ := ml_strands (N := N) (x := i) (τ := G) ok (by omega) (by omega) (by rw [g191]; exact row) hi (shipN M i 5) b5 200 0 N (G 191) (by omega) (by omega) (by rw [g191]; exact row) (fun _ _ => rfl)
    have sk : seek (fun n => decide (tk M n (17 + 7 * i + 5) ≠ shipN M i 5)) (200 + 1) 0 = seek (fun n => decide (sailK M (shipN M i) n 5 ≠ shipN M i 5)) 200 (0 + 1) := by
      rw [seek_skip (p := fun n => decide (tk M n (17 + 7 * i + 5) ≠ shipN M i 5)) (q := fun n => decide (sailK M (shipN M i) n 5 ≠ shipN M i 5)) 201 0 (fun n _ _ => by show decide _ = decide _; rw [tk_ship M hi n 5 (by decide)])]
      show (if decide (sailK M (shipN M i) 0 5 ≠ shipN M i 5) then _ else _) = _
      have : sailK M (shipN M i) 0 5 = shipN M i 5 := rfl
      simp [this]
    rw [sk] at b1 b2
    obtain ⟨f1, f2⟩ := seek_fin hI hc (by decide) a2' b2
    exact ⟨⟨vp_in_nI (by omega) (by decide), a3'⟩, ⟨cp2, m_pis (f := 5) (by omega) _, b3 f2⟩, a1'.trans b1.symm, f1⟩

theorem l_when {N T : Nat} {y : Nat} {M s : Nat → Nat} {x1 : Int32} (ok : okL T M) (os : okS s) (hy : y < 24) (hT : M 0 + 300 ≤ 99999) : ∀ d i fuel (τ : tw_T), i + d = 201 → d < fuel → litR (τ 2) M → shR (τ 45) (sailK M s i) →
    lf_X8_when_46 N fuel x1 (nI y) (nI i) τ = resI (seek (fun n => decide (sailK M s n 1 = y)) d i) ∧ (∃ r, lg_X8_when_46 N fuel x1 (nI y) (nI i) τ = (if (seek (fun n => decide (sailK M s n 1 = y)) d i).isSome then tw_sr τ 45 r else g_X8_found (-1000004) (tw_sr τ 45 r))) ∧ lo_X8_when_46 N fuel x1 (nI y) (nI i) τ := by
  intro d
  induction d with
  | zero =>
    intro i fuel τ hi hf hl hs
    obtain ⟨u, rfl⟩ : ∃ u, fuel = u + 1 := ⟨fuel - 1, by omega⟩
    have e : i = 201 := by omega
    subst e
    have hlt : (200 : Int32) < nI 201 := by decide
    rw [lf_X8_when_46, lg_X8_when_46, lo_X8_when_46, if_pos hlt, if_pos hlt, if_pos hlt]
    refine ⟨rfl, ⟨τ 45, ?_⟩, trivial⟩
    rw [sr_id]
    rfl
  | succ d ih =>
    intro i fuel τ hi hf hl hs
    obtain ⟨u, rfl⟩ : ∃ u, fuel = u + 1 := ⟨fuel - 1, by omega⟩
    have hnlt : ¬ (200 : Int32) < nI i := nI_nlt (a := 200) (b := i) (by omega) (by decide)
    have bA : sailK M s i 1 < 24 := (okS_sailK os i).2.1
    rw [lf_X8_when_46, lg_X8_when_46, lo_X8_when_46, if_neg hnlt, if_neg hnlt, if_neg hnlt, hs 1 (by decide)]
    by_cases c : sailK M s i 1 = y
    · have c' : nI (sailK M s i 1) = nI (y) := by rw [c]
      have es : seek (fun n => decide (sailK M s n 1 = y)) (d + 1) i = some i := by
        show (if decide (sailK M s i 1 = y) then _ else _) = _
        simp [c]
      rw [if_pos c', if_pos c', if_pos c', es]
      refine ⟨rfl, ⟨τ 45, ?_⟩, trivial⟩
      rw [sr_id]
      rfl
    · have c' : ¬ nI (sailK M s i 1) = nI (y) := fun q => c ((nI_eq (by omega) (by omega)).mp q)
      have es : seek (fun n => decide (sailK M s n 1 = y)) (d + 1) i = seek (fun n => decide (sailK M s n 1 = y)) d (i + 1) := by
        show (if decide (sailK M s i 1 = y) then _ else _) = _
        simp [c]
      obtain ⟨r, t1, t2⟩ := c_tickOn (k := 45) (i := i) ok os (by omega) (by decide) hl hs
      rw [if_neg c', if_neg c', if_neg c', nI_1, t1, es]
      obtain ⟨a1, ⟨w, a2⟩, a3⟩ := ih (i + 1) u (tw_sr τ 45 r) (by omega) (by omega) (by rw [sr_ne (by decide)]; exact hl) (by rw [sr_self]; exact t2)
      exact ⟨a1, ⟨w, by rw [a2, sr_sr]⟩, a3⟩
theorem ml_when {N T x y : Nat} {M : Nat → Nat} {τ : tw_T} (ok : okT T M) (hT : T + 300 < 2 ^ 30) (hN : 74 ≤ N) (row : rowT (τ 191) M) (hx : x < M 1) (hy : y < 24) : ∀ d i fuel (R : Nat → Int32), i + d = 200 → d < fuel → rowT R (tk M i) → oth R (τ 191) →
    lf_X9_when_35 N fuel (nI x) (nI y) (nI i) (tw_sr (tw_sr τ 193 (cpR (τ 191) (τ 193))) 191 R) = resI (seek (fun n => decide (tk M n (17 + 7 * x + 1) = y)) (d + 1) i) ∧
    lg_X9_when_35 N fuel (nI x) (nI y) (nI i) (tw_sr (tw_sr τ 193 (cpR (τ 191) (τ 193))) 191 R) = (if (seek (fun n => decide (tk M n (17 + 7 * x + 1) = y)) (d + 1) i).isSome then (tw_sr τ 193 (cpR (τ 191) (τ 193))) else g_X9_finding (-1000004) (tw_sr τ 193 (cpR (τ 191) (τ 193)))) ∧
    (p_X9_finding (-1000004) (tw_sr τ 193 (cpR (τ 191) (τ 193))) → lo_X9_when_35 N fuel (nI x) (nI y) (nI i) (tw_sr (tw_sr τ 193 (cpR (τ 191) (τ 193))) 191 R)) := by
  have hM1 := ok.2.1
  have nn : ∀ i, i ≤ 200 → (0 : Int32) ≤ nI i := fun i h => nI_pos' (by omega)
  have n1 : ¬ (0 : Int32) ≤ -1 := by decide
  intro d
  induction d with
  | zero =>
    intro i fuel R hi hf hr ho
    obtain ⟨u, rfl⟩ : ∃ u, fuel = u + 1 := ⟨fuel - 1, by omega⟩
    have e : i = 200 := by omega
    subst e
    have hle : (200 : Int32) ≤ nI 200 := by decide
    obtain ⟨k1, k2⟩ := m_back (N := N) (τ := τ) hN ho
    have okn := okT_tk ok 200
    have bA : tk M 200 (17 + 7 * x + 1) < 24 := (okT_S okn (i := x) (by omega)).2.1
    have es : f_X9_shipIs (nI x) 1 (tw_sr (tw_sr τ 193 (cpR (τ 191) (τ 193))) 191 R) = nI (tk M 200 (17 + 7 * x + 1)) := by
      rw [q_1, m_is (by omega), sr_self, hr _ (by omega) (by omega)]
    have ps : p_X9_shipIs (nI x) 1 (tw_sr (tw_sr τ 193 (cpR (τ 191) (τ 193))) 191 R) := m_pis (f := 1) (by omega) _
    rw [lf_X9_when_35, lg_X9_when_35, lo_X9_when_35, if_pos hle, if_pos hle, if_pos hle, es]
    unfold f_X9_putBack g_X9_putBack p_X9_putBack f_X9_orNone g_X9_orNone p_X9_orNone
    rw [k1]
    by_cases c : tk M 200 (17 + 7 * x + 1) = y
    · have c' : nI (tk M 200 (17 + 7 * x + 1)) = nI (y) := by rw [c]
      have sk : seek (fun n => decide (tk M n (17 + 7 * x + 1) = y)) (0 + 1) 200 = some 200 := by
        show (if decide (tk M 200 (17 + 7 * x + 1) = y) then _ else _) = _
        simp [c]
      rw [sk, if_pos c', if_pos c', if_pos c', if_pos (nn 200 (by omega)), if_pos (nn 200 (by omega)), if_pos (nn 200 (by omega))]
      exact ⟨rfl, rfl, fun pf => ⟨ps, ⟨k2, trivial⟩, trivial, trivial⟩⟩
    · have c' : ¬ nI (tk M 200 (17 + 7 * x + 1)) = nI (y) := fun q => c ((nI_eq (by omega) (by omega)).mp q)
      have sk : seek (fun n => decide (tk M n (17 + 7 * x + 1) = y)) (0 + 1) 200 = none := by
        show (if decide (tk M 200 (17 + 7 * x + 1) = y) then _ else _) = _
        simp [c, seek]
      rw [sk, if_neg c', if_neg c', if_neg c', if_neg n1, if_neg n1, if_neg n1]
      exact ⟨rfl, rfl, fun pf => ⟨ps, ⟨k2, trivial⟩, ⟨pf, trivial⟩, trivial⟩⟩
  | succ d ih =>
    intro i fuel R hi hf hr ho
    obtain ⟨u, rfl⟩ : ∃ u, fuel = u + 1 := ⟨fuel - 1, by omega⟩
    have hgt : ¬ (200 : Int32) ≤ nI i := nI_ge (a := i) (b := 200) (by omega) (by decide)
    obtain ⟨k1, k2⟩ := m_back (N := N) (τ := τ) hN ho
    have okn := okT_tk ok i
    have bA : tk M i (17 + 7 * x + 1) < 24 := (okT_S okn (i := x) (by omega)).2.1
    have es : f_X9_shipIs (nI x) 1 (tw_sr (tw_sr τ 193 (cpR (τ 191) (τ 193))) 191 R) = nI (tk M i (17 + 7 * x + 1)) := by
      rw [q_1, m_is (by omega), sr_self, hr _ (by omega) (by omega)]
    have ps : p_X9_shipIs (nI x) 1 (tw_sr (tw_sr τ 193 (cpR (τ 191) (τ 193))) 191 R) := m_pis (f := 1) (by omega) _
    rw [lf_X9_when_35, lg_X9_when_35, lo_X9_when_35, if_neg hgt, if_neg hgt, if_neg hgt, es]
    by_cases c : tk M i (17 + 7 * x + 1) = y
    · have c' : nI (tk M i (17 + 7 * x + 1)) = nI (y) := by rw [c]
      have sk : seek (fun n => decide (tk M n (17 + 7 * x + 1) = y)) (d + 1 + 1) i = some i := by
        show (if decide (tk M i (17 + 7 * x + 1) = y) then _ else _) = _
        simp [c]
      unfold f_X9_putBack g_X9_putBack p_X9_putBack f_X9_orNone g_X9_orNone p_X9_orNone
      rw [k1, sk]
      simp only [c', if_true]
      rw [if_pos (nn i (by omega)), if_pos (nn i (by omega)), if_pos (nn i (by omega))]
      exact ⟨rfl, rfl, fun pf => ⟨ps, ps, ⟨k2, trivial⟩, trivial, trivial⟩⟩
    · have c' : ¬ nI (tk M i (17 + 7 * x + 1)) = nI (y) := fun q => c ((nI_eq (by omega) (by omega)).mp q)
      obtain ⟨R', t1, t2, t3, t4⟩ := m_tick (N := N) (τ := (tw_sr (tw_sr τ 193 (cpR (τ 191) (τ 193))) 191 R)) okn (by omega) (by omega) (by rw [sr_self]; exact hr)
      rw [sr_self] at t3
      rw [if_neg c', if_neg c', if_neg c', nI_1, t1, sr_sr]
      obtain ⟨a1, a2, a3⟩ := ih (i + 1) u R' (by omega) (by omega) t2 (fun j hj => (t3 j hj).trans (ho j hj))
      have sk : seek (fun n => decide (tk M n (17 + 7 * x + 1) = y)) (d + 1 + 1) i = seek (fun n => decide (tk M n (17 + 7 * x + 1) = y)) (d + 1) (i + 1) := by
        show (if decide (tk M i (17 + 7 * x + 1) = y) then _ else _) = _
        simp [c]
      rw [sk]
      exact ⟨a1, a2, fun pf => ⟨ps, t4, a3 pf⟩⟩
theorem l_meet {N T : Nat} {M s s' : Nat → Nat} {x1 x2 : Int32} (ok : okL T M) (os : okS s) (os' : okS s') (hT : M 0 + 300 ≤ 99999) : ∀ d i fuel (τ : tw_T), i + d = 201 → d < fuel → litR (τ 2) M → shR (τ 45) (sailK M s i) → shR (τ 46) (sailK M s' i) →
    lf_X8_meet_68 N fuel x1 x2 (nI i) τ = resI (seek (fun n => decide (sailK M s n 1 = sailK M s' n 1)) d i) ∧ (∃ r r', lg_X8_meet_68 N fuel x1 x2 (nI i) τ = (if (seek (fun n => decide (sailK M s n 1 = sailK M s' n 1)) d i).isSome then tw_sr (tw_sr τ 45 r) 46 r' else g_X8_found (-1000004) (tw_sr (tw_sr τ 45 r) 46 r'))) ∧ lo_X8_meet_68 N fuel x1 x2 (nI i) τ := by
  intro d
  induction d with
  | zero =>
    intro i fuel τ hi hf hl hs hs'
    obtain ⟨u, rfl⟩ : ∃ u, fuel = u + 1 := ⟨fuel - 1, by omega⟩
    have e : i = 201 := by omega
    subst e
    have hlt : (200 : Int32) < nI 201 := by decide
    rw [lf_X8_meet_68, lg_X8_meet_68, lo_X8_meet_68, if_pos hlt, if_pos hlt, if_pos hlt]
    refine ⟨rfl, ⟨τ 45, τ 46, ?_⟩, trivial⟩
    rw [sr_id, sr_id]
    rfl
  | succ d ih =>
    intro i fuel τ hi hf hl hs hs'
    obtain ⟨u, rfl⟩ : ∃ u, fuel = u + 1 := ⟨fuel - 1, by omega⟩
    have hnlt : ¬ (200 : Int32) < nI i := nI_nlt (a := 200) (b := i) (by omega) (by decide)
    have bA : sailK M s i 1 < 24 := (okS_sailK os i).2.1
    have bB : sailK M s' i 1 < 24 := (okS_sailK os' i).2.1
    rw [lf_X8_meet_68, lg_X8_meet_68, lo_X8_meet_68, if_neg hnlt, if_neg hnlt, if_neg hnlt, hs 1 (by decide), hs' 1 (by decide)]
    by_cases c : sailK M s i 1 = sailK M s' i 1
    · have c' : nI (sailK M s i 1) = nI (sailK M s' i 1) := by rw [c]
      have es : seek (fun n => decide (sailK M s n 1 = sailK M s' n 1)) (d + 1) i = some i := by
        show (if decide (sailK M s i 1 = sailK M s' i 1) then _ else _) = _
        simp [c]
      rw [if_pos c', if_pos c', if_pos c', es]
      refine ⟨rfl, ⟨τ 45, τ 46, ?_⟩, trivial⟩
      rw [sr_id, sr_id]
      rfl
    · have c' : ¬ nI (sailK M s i 1) = nI (sailK M s' i 1) := fun q => c ((nI_eq (by omega) (by omega)).mp q)
      have es : seek (fun n => decide (sailK M s n 1 = sailK M s' n 1)) (d + 1) i = seek (fun n => decide (sailK M s n 1 = sailK M s' n 1)) d (i + 1) := by
        show (if decide (sailK M s i 1 = sailK M s' i 1) then _ else _) = _
        simp [c]
      obtain ⟨r, t1, t2⟩ := c_tickOn (k := 45) (i := i) ok os (by omega) (by decide) hl hs
      obtain ⟨r2, t3, t4⟩ := c_tickOn (k := 46) (i := i) (τ := tw_sr τ 45 r) ok os' (by omega) (by decide) (by rw [sr_ne (by decide)]; exact hl) (by rw [sr_ne (by decide)]; exact hs')
      rw [if_neg c', if_neg c', if_neg c', nI_1, t1, t3, es]
      obtain ⟨a1, ⟨w, w', a2⟩, a3⟩ := ih (i + 1) u (tw_sr (tw_sr τ 45 r) 46 r2) (by omega) (by omega) (by rw [sr_ne (by decide), sr_ne (by decide)]; exact hl) (by rw [sr_ne (by decide), sr_self]; exact t2) (by rw [sr_self]; exact t4)
      refine ⟨a1, ⟨w, w', ?_⟩, a3⟩
      rw [a2, sr_comm (a := 46) (b := 45) (by decide), sr_sr, sr_sr]
theorem ml_meet {N T x z : Nat} {M : Nat → Nat} {τ : tw_T} (ok : okT T M) (hT : T + 300 < 2 ^ 30) (hN : 74 ≤ N) (row : rowT (τ 191) M) (hx : x < M 1) (hz : z < M 1) : ∀ d i fuel (R : Nat → Int32), i + d = 200 → d < fuel → rowT R (tk M i) → oth R (τ 191) →
    lf_X9_meet_41 N fuel (nI x) (nI z) (nI i) (tw_sr (tw_sr τ 193 (cpR (τ 191) (τ 193))) 191 R) = resI (seek (fun n => decide (tk M n (17 + 7 * x + 1) = tk M n (17 + 7 * z + 1))) (d + 1) i) ∧
    lg_X9_meet_41 N fuel (nI x) (nI z) (nI i) (tw_sr (tw_sr τ 193 (cpR (τ 191) (τ 193))) 191 R) = (if (seek (fun n => decide (tk M n (17 + 7 * x + 1) = tk M n (17 + 7 * z + 1))) (d + 1) i).isSome then (tw_sr τ 193 (cpR (τ 191) (τ 193))) else g_X9_finding (-1000004) (tw_sr τ 193 (cpR (τ 191) (τ 193)))) ∧
    (p_X9_finding (-1000004) (tw_sr τ 193 (cpR (τ 191) (τ 193))) → lo_X9_meet_41 N fuel (nI x) (nI z) (nI i) (tw_sr (tw_sr τ 193 (cpR (τ 191) (τ 193))) 191 R)) := by
  have hM1 := ok.2.1
  have nn : ∀ i, i ≤ 200 → (0 : Int32) ≤ nI i := fun i h => nI_pos' (by omega)
  have n1 : ¬ (0 : Int32) ≤ -1 := by decide
  intro d
  induction d with
  | zero =>
    intro i fuel R hi hf hr ho
    obtain ⟨u, rfl⟩ : ∃ u, fuel = u + 1 := ⟨fuel - 1, by omega⟩
    have e : i = 200 := by omega
    subst e
    have hle : (200 : Int32) ≤ nI 200 := by decide
    obtain ⟨k1, k2⟩ := m_back (N := N) (τ := τ) hN ho
    have okn := okT_tk ok 200
    have bA : tk M 200 (17 + 7 * x + 1) < 24 := (okT_S okn (i := x) (by omega)).2.1
    have es : f_X9_shipIs (nI x) 1 (tw_sr (tw_sr τ 193 (cpR (τ 191) (τ 193))) 191 R) = nI (tk M 200 (17 + 7 * x + 1)) := by
      rw [q_1, m_is (by omega), sr_self, hr _ (by omega) (by omega)]
    have ps : p_X9_shipIs (nI x) 1 (tw_sr (tw_sr τ 193 (cpR (τ 191) (τ 193))) 191 R) := m_pis (f := 1) (by omega) _
    have bB : tk M 200 (17 + 7 * z + 1) < 24 := (okT_S okn (i := z) (by omega)).2.1
    have es2 : f_X9_shipIs (nI z) 1 (tw_sr (tw_sr τ 193 (cpR (τ 191) (τ 193))) 191 R) = nI (tk M 200 (17 + 7 * z + 1)) := by
      rw [q_1, m_is (by omega), sr_self, hr _ (by omega) (by omega)]
    have ps2 : p_X9_shipIs (nI z) 1 (tw_sr (tw_sr τ 193 (cpR (τ 191) (τ 193))) 191 R) := m_pis (f := 1) (by omega) _
    rw [lf_X9_meet_41, lg_X9_meet_41, lo_X9_meet_41, if_pos hle, if_pos hle, if_pos hle, es, es2]
    unfold f_X9_putBack g_X9_putBack p_X9_putBack f_X9_orNone g_X9_orNone p_X9_orNone
    rw [k1]
    by_cases c : tk M 200 (17 + 7 * x + 1) = tk M 200 (17 + 7 * z + 1)
    · have c' : nI (tk M 200 (17 + 7 * x + 1)) = nI (tk M 200 (17 + 7 * z + 1)) := by rw [c]
      have sk : seek (fun n => decide (tk M n (17 + 7 * x + 1) = tk M n (17 + 7 * z + 1))) (0 + 1) 200 = some 200 := by
        show (if decide (tk M 200 (17 + 7 * x + 1) = tk M 200 (17 + 7 * z + 1)) then _ else _) = _
        simp [c]
      rw [sk, if_pos c', if_pos c', if_pos c', if_pos (nn 200 (by omega)), if_pos (nn 200 (by omega)), if_pos (nn 200 (by omega))]
      exact ⟨rfl, rfl, fun pf => ⟨ps, ps2, ⟨k2, trivial⟩, trivial, trivial⟩⟩
    · have c' : ¬ nI (tk M 200 (17 + 7 * x + 1)) = nI (tk M 200 (17 + 7 * z + 1)) := fun q => c ((nI_eq (by omega) (by omega)).mp q)
      have sk : seek (fun n => decide (tk M n (17 + 7 * x + 1) = tk M n (17 + 7 * z + 1))) (0 + 1) 200 = none := by
        show (if decide (tk M 200 (17 + 7 * x + 1) = tk M 200 (17 + 7 * z + 1)) then _ else _) = _
        simp [c, seek]
      rw [sk, if_neg c', if_neg c', if_neg c', if_neg n1, if_neg n1, if_neg n1]
      exact ⟨rfl, rfl, fun pf => ⟨ps, ps2, ⟨k2, trivial⟩, ⟨pf, trivial⟩, trivial⟩⟩
  | succ d ih =>
    intro i fuel R hi hf hr ho
    obtain ⟨u, rfl⟩ : ∃ u, fuel = u + 1 := ⟨fuel - 1, by omega⟩
    have hgt : ¬ (200 : Int32) ≤ nI i := nI_ge (a := i) (b := 200) (by omega) (by decide)
    obtain ⟨k1, k2⟩ := m_back (N := N) (τ := τ) hN ho
    have okn := okT_tk ok i
    have bA : tk M i (17 + 7 * x + 1) < 24 := (okT_S okn (i := x) (by omega)).2.1
    have es : f_X9_shipIs (nI x) 1 (tw_sr (tw_sr τ 193 (cpR (τ 191) (τ 193))) 191 R) = nI (tk M i (17 + 7 * x + 1)) := by
      rw [q_1, m_is (by omega), sr_self, hr _ (by omega) (by omega)]
    have ps : p_X9_shipIs (nI x) 1 (tw_sr (tw_sr τ 193 (cpR (τ 191) (τ 193))) 191 R) := m_pis (f := 1) (by omega) _
    have bB : tk M i (17 + 7 * z + 1) < 24 := (okT_S okn (i := z) (by omega)).2.1
    have es2 : f_X9_shipIs (nI z) 1 (tw_sr (tw_sr τ 193 (cpR (τ 191) (τ 193))) 191 R) = nI (tk M i (17 + 7 * z + 1)) := by
      rw [q_1, m_is (by omega), sr_self, hr _ (by omega) (by omega)]
    have ps2 : p_X9_shipIs (nI z) 1 (tw_sr (tw_sr τ 193 (cpR (τ 191) (τ 193))) 191 R) := m_pis (f := 1) (by omega) _
    rw [lf_X9_meet_41, lg_X9_meet_41, lo_X9_meet_41, if_neg hgt, if_neg hgt, if_neg hgt, es, es2]
    by_cases c : tk M i (17 + 7 * x + 1) = tk M i (17 + 7 * z + 1)
    · have c' : nI (tk M i (17 + 7 * x + 1)) = nI (tk M i (17 + 7 * z + 1)) := by rw [c]
      have sk : seek (fun n => decide (tk M n (17 + 7 * x + 1) = tk M n (17 + 7 * z + 1))) (d + 1 + 1) i = some i := by
        show (if decide (tk M i (17 + 7 * x + 1) = tk M i (17 + 7 * z + 1)) then _ else _) = _
        simp [c]
      unfold f_X9_putBack g_X9_putBack p_X9_putBack f_X9_orNone g_X9_orNone p_X9_orNone
      rw [k1, sk]
      simp only [c', if_true]
      rw [if_pos (nn i (by omega)), if_pos (nn i (by omega)), if_pos (nn i (by omega))]
      exact ⟨rfl, rfl, fun pf => ⟨ps, ps2, ps, ps2, ⟨k2, trivial⟩, trivial, trivial⟩⟩
    · have c' : ¬ nI (tk M i (17 + 7 * x + 1)) = nI (tk M i (17 + 7 * z + 1)) := fun q => c ((nI_eq (by omega) (by omega)).mp q)
      obtain ⟨R', t1, t2, t3, t4⟩ := m_tick (N := N) (τ := (tw_sr (tw_sr τ 193 (cpR (τ 191) (τ 193))) 191 R)) okn (by omega) (by omega) (by rw [sr_self]; exact hr)
      rw [sr_self] at t3
      rw [if_neg c', if_neg c', if_neg c', nI_1, t1, sr_sr]
      obtain ⟨a1, a2, a3⟩ := ih (i + 1) u R' (by omega) (by omega) t2 (fun j hj => (t3 j hj).trans (ho j hj))
      have sk : seek (fun n => decide (tk M n (17 + 7 * x + 1) = tk M n (17 + 7 * z + 1))) (d + 1 + 1) i = seek (fun n => decide (tk M n (17 + 7 * x + 1) = tk M n (17 + 7 * z + 1))) (d + 1) (i + 1) := by
        show (if decide (tk M i (17 + 7 * x + 1) = tk M i (17 + 7 * z + 1)) then _ else _) = _
        simp [c]
      rw [sk]
      exact ⟨a1, a2, fun pf => ⟨ps, ps2, t4, a3 pf⟩⟩
theorem st_when {c N : Nat} {τ : tw_T} (hI : Inv c τ) (hc : c < 512) (hN : 5000 ≤ N) (x1 x2 : Int32) : p_X8_when N x1 x2 τ ∧ p_X9_when N x1 x2 (g_X8_when N x1 x2 τ) ∧ f_X8_when N x1 x2 τ = f_X9_when N x1 x2 (g_X8_when N x1 x2 τ) ∧ Inv (c + 1) (g_X9_when N x1 x2 (g_X8_when N x1 x2 τ)) := by
  obtain ⟨M, ok, row, spt, ⟨hl, hn, hs⟩, hz⟩ := inv_M hI
  have hM1 := ok.2.1
  have hM0 := ok.1
  have r1 : τ 191 1 = nI (M 1) := row 1 (by decide) (by decide)
  obtain ⟨q1, q2⟩ := fail_B hI hc
  have rf : (g_X8_found ((-1000001)) τ) 191 1 = nI (M 1) := by rw [found_ne (by decide)]; exact r1
  unfold p_X8_when p_X9_when f_X9_when g_X9_when f_X8_when g_X8_when
  rcases isShip_or (τ := τ) hn hM1 x1 with ⟨a, b⟩ | ⟨i, hi, rfl, a, b⟩
  · simp only [a, b _ rf, if_true]
    exact ⟨trivial, ⟨q1, trivial⟩, rfl, q2⟩
  by_cases h : f_X8_within x2 0 23 τ = 0
  · have h9 : ∀ τ', f_X9_isCell x2 τ' = 0 := fun τ' => h
    simp only [a, b _ rf, h, h9, if_true, if_false]
    exact ⟨trivial, ⟨q1, trivial⟩, rfl, q2⟩
  · have h9 : ∀ τ', ¬ f_X9_isCell x2 τ' = 0 := fun τ' => h
    obtain ⟨y, hy, rfl⟩ := w_of (n := 23) rfl (by decide) h
    have os := okT_S ok (i := i) (by omega)
    have ei : (nI i).toNatClampNeg = i := nI_clamp (by omega)
    have ek : 3 + 2 + i = 1 + 4 + i := by omega
    simp only [a, h, h9, ei, ek, if_false]
    obtain ⟨r, t1, t2⟩ := c_take (τ := τ) (k := 45) (o := 1 + 4 + i) (by omega)
    have hsr : shR ((tw_sr τ 45 r) 45) (shipN M i) := by rw [sr_self]; intro f hf; rw [t2 f hf]; exact hs i hi f hf
    rw [t1]
    obtain ⟨a1, ⟨r', a2⟩, a3⟩ := l_when (N := N) (y := y) (x1 := nI i) (M := M) (s := shipN M i) (okT_L ok) os (by omega) (by omega) 201 0 N (tw_sr τ 45 r) (by omega) (by omega) (by rw [sr_ne (by decide)]; exact hl) hsr
    rw [sr_sr] at a2
    have a1' : lf_X8_when_46 N N (nI i) (nI y) 0 (tw_sr τ 45 r) = _ := a1
    have a2' : lg_X8_when_46 N N (nI i) (nI y) 0 (tw_sr τ 45 r) = _ := a2
    have a3' : lo_X8_when_46 N N (nI i) (nI y) 0 (tw_sr τ 45 r) := a3
    generalize hGe : lg_X8_when_46 N N (nI i) (nI y) 0 (tw_sr τ 45 r) = G at *
    have g191 := seek_191 (by decide) a2'
    obtain ⟨cp1, cp2⟩ := cp_start (N := N) (τ := G) (by omega)
    have hh := b G (by rw [g191]; exact r1)
    rw [if_neg hh, if_neg hh, if_neg hh, cp1]
    obtain ⟨b1, b2, b3⟩ := ml_when (N := N) (x := i) (y := y) (τ := G) ok (by omega) (by omega) (by rw [g191]; exact row) hi (by omega) 200 0 N (G 191) (by omega) (by omega) (by rw [g191]; exact row) (fun _ _ => rfl)
    rw [seek_skip (p := fun n => decide (tk M n (17 + 7 * i + 1) = y)) (q := fun n => decide (sailK M (shipN M i) n 1 = y)) (200 + 1) 0 (fun n _ _ => by show decide _ = decide _; rw [tk_ship M hi n 1 (by decide)])] at b1 b2
    obtain ⟨f1, f2⟩ := seek_fin hI hc (by decide) a2' b2
    exact ⟨⟨vp_in_nI (by omega) (by decide), a3'⟩, ⟨cp2, b3 f2⟩, a1'.trans b1.symm, f1⟩
theorem st_meet {c N : Nat} {τ : tw_T} (hI : Inv c τ) (hc : c < 512) (hN : 5000 ≤ N) (x1 x2 : Int32) : p_X8_meet N x1 x2 τ ∧ p_X9_meet N x1 x2 (g_X8_meet N x1 x2 τ) ∧ f_X8_meet N x1 x2 τ = f_X9_meet N x1 x2 (g_X8_meet N x1 x2 τ) ∧ Inv (c + 1) (g_X9_meet N x1 x2 (g_X8_meet N x1 x2 τ)) := by
  obtain ⟨M, ok, row, spt, ⟨hl, hn, hs⟩, hz⟩ := inv_M hI
  have hM1 := ok.2.1
  have hM0 := ok.1
  have r1 : τ 191 1 = nI (M 1) := row 1 (by decide) (by decide)
  obtain ⟨q1, q2⟩ := fail_B hI hc
  have rf : (g_X8_found ((-1000001)) τ) 191 1 = nI (M 1) := by rw [found_ne (by decide)]; exact r1
  unfold p_X8_meet p_X9_meet f_X9_meet g_X9_meet f_X8_meet g_X8_meet
  rcases isShip_or (τ := τ) hn hM1 x1 with ⟨a, b⟩ | ⟨i, hi, rfl, a, b⟩
  · simp only [a, b _ rf, if_true]
    exact ⟨trivial, ⟨q1, trivial⟩, rfl, q2⟩
  rcases isShip_or (τ := τ) hn hM1 x2 with ⟨a', b'⟩ | ⟨k, hk, rfl, a', b'⟩
  · simp only [a, b _ rf, a', b' _ rf, if_true, if_false]
    exact ⟨trivial, ⟨q1, trivial⟩, rfl, q2⟩
  by_cases hik : nI i = nI k
  · simp only [a, b _ rf, a', b' _ rf, hik, if_true, if_false] at *
    exact ⟨trivial, ⟨q1, trivial⟩, rfl, q2⟩
  · have os := okT_S ok (i := i) (by omega)
    have os' := okT_S ok (i := k) (by omega)
    have ei : (nI i).toNatClampNeg = i := nI_clamp (by omega)
    have ei' : (nI k).toNatClampNeg = k := nI_clamp (by omega)
    have ek : 3 + 2 + i = 1 + 4 + i := by omega
    have ek' : 3 + 2 + k = 1 + 4 + k := by omega
    simp only [a, a', hik, ei, ek, ei', ek', if_false]
    obtain ⟨r, t1, t2⟩ := c_take (τ := τ) (k := 45) (o := 1 + 4 + i) (by omega)
    obtain ⟨r2, t3, t4⟩ := c_take (τ := tw_sr τ 45 r) (k := 46) (o := 1 + 4 + k) (by omega)
    rw [t1, t3]
    have hsr : shR ((tw_sr (tw_sr τ 45 r) 46 r2) 45) (shipN M i) := by rw [sr_ne (by decide), sr_self]; intro f hf; rw [t2 f hf]; exact hs i hi f hf
    have hsr' : shR ((tw_sr (tw_sr τ 45 r) 46 r2) 46) (shipN M k) := by rw [sr_self]; intro f hf; rw [t4 f hf, sr_ne (by omega)]; exact hs k hk f hf
    obtain ⟨a1, ⟨w, w', a2⟩, a3⟩ := l_meet (N := N) (x1 := nI i) (x2 := nI k) (M := M) (s := shipN M i) (s' := shipN M k) (okT_L ok) os os' (by omega) 201 0 N (tw_sr (tw_sr τ 45 r) 46 r2) (by omega) (by omega) (by rw [sr_ne (by decide), sr_ne (by decide)]; exact hl) hsr hsr'
    rw [sr_comm (a := 46) (b := 45) (by decide), sr_sr, sr_sr] at a2
    have a1' : lf_X8_meet_68 N N (nI i) (nI k) 0 (tw_sr (tw_sr τ 45 r) 46 r2) = _ := a1
    have a2' : lg_X8_meet_68 N N (nI i) (nI k) 0 (tw_sr (tw_sr τ 45 r) 46 r2) = _ := a2
    have a3' : lo_X8_meet_68 N N (nI i) (nI k) 0 (tw_sr (tw_sr τ 45 r) 46 r2) := a3
    generalize hGe : lg_X8_meet_68 N N (nI i) (nI k) 0 (tw_sr (tw_sr τ 45 r) 46 r2) = G at *
    have g191 : G 191 = τ 191 := by rw [seek_191 (τ := tw_sr τ 45 w) (k := 46) (by decide) a2', sr_ne (by decide)]
    obtain ⟨cp1, cp2⟩ := cp_start (N := N) (τ := G) (by omega)
    have hh := b G (by rw [g191]; exact r1)
    have hh' := b' G (by rw [g191]; exact r1)
    rw [if_neg hh, if_neg hh, if_neg hh, if_neg hh', if_neg hh', if_neg hh', cp1]
    obtain ⟨b1, b2, b3⟩ := ml_meet (N := N) (x := i) (z := k) (τ := G) ok (by omega) (by omega) (by rw [g191]; exact row) hi hk 200 0 N (G 191) (by omega) (by omega) (by rw [g191]; exact row) (fun _ _ => rfl)
    rw [seek_skip (p := fun n => decide (tk M n (17 + 7 * i + 1) = tk M n (17 + 7 * k + 1))) (q := fun n => decide (sailK M (shipN M i) n 1 = sailK M (shipN M k) n 1)) (200 + 1) 0 (fun n _ _ => by show decide _ = decide _; rw [tk_ship M hi n 1 (by decide), tk_ship M hk n 1 (by decide)])] at b1 b2
    have hI45 : Inv c (tw_sr τ 45 w) := by
      have e := inv_scratch hI hc (k := 45) (by decide) w ((tw_sr τ 45 w) 193)
      rw [sr_id] at e
      exact e
    obtain ⟨f1, f2⟩ := seek_fin hI45 hc (k := 46) (by decide) a2' b2
    exact ⟨⟨vp_in_nI (by omega) (by decide), vp_in_nI (by omega) (by decide), a3'⟩, ⟨cp2, b3 f2⟩, a1'.trans b1.symm, f1⟩
