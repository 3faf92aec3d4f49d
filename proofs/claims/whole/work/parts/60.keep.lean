/-! ===== keepIn: the smallest set of ships ===== -/
theorem Inv_same0 {c : Nat} {τ τ' : tw_T} (hI : Inv c τ) (hk : ∀ k, keepC k ∨ (1 ≤ k ∧ k ≤ 13) ∨ k = 191 → τ' k = τ k) : Inv c τ' := by
  obtain ⟨h0, h1, h2, h3, h4, h5, h6⟩ := hI
  have r : ∀ k, keepC k → τ' k = τ k := fun k h => hk k (Or.inl h)
  have d : ∀ k, (k = 0 ∨ k = 190 ∨ k = 192 ∨ k = 27 ∨ k = 28 ∨ k = 195 ∨ k = 198 ∨ k = 199 ∨ k = 200 ∨ k = 30 ∨ k = 194 ∨ k = 48) → τ' k = τ k := fun k h => r k (by unfold keepC; omega)
  exact ⟨h0, I_sea_congr (fun k a b => hk k (Or.inr (Or.inl ⟨a, b⟩))) (hk 191 (Or.inr (Or.inr rfl))) h1, I_kept_congr (by rw [d 0 (by decide)]) (by rw [d 190 (by decide)]) (fun k a b => r k (by unfold keepC; omega)) (d 192 (by decide)) h2, I_tape_congr (by rw [d 190 (by decide)]) (by rw [d 27 (by decide)]) (d 28 (by decide)) (d 195 (by decide)) h3, I_sheet_congr (fun k a b => r k (by unfold keepC; omega)) (d 198 (by decide)) (d 199 (by decide)) (d 200 (by decide)) h4, I_fnd_congr (d 30 (by decide)) (d 194 (by decide)) h5, I_dem_congr (d 48 (by decide)) h6⟩
theorem fin_X {c : Nat} {X G H : tw_T} {o : Option Nat} (hI : ∀ Y, Inv c (tw_sr X 193 Y)) (hc : c < 512) (hG : G = if o.isSome then X else g_X8_found (-1000004) X) (hH : ∃ Y, H = if o.isSome then tw_sr G 193 Y else g_X9_finding (-1000004) (tw_sr G 193 Y)) : Inv (c + 1) H := by
  obtain ⟨Y, hH⟩ := hH
  cases o with
  | some n =>
    have hG' : G = X := hG
    have hH' : H = tw_sr G 193 Y := hH
    rw [hH', hG']
    exact Inv_mono (hI Y) hc
  | none =>
    have hG' : G = g_X8_found (-1000004) X := hG
    have hH' : H = g_X9_finding (-1000004) (tw_sr G 193 Y) := hH
    rw [hH', hG', found_193 (j := 3) (by decide) (by decide)]
    exact (fail_N (hI Y) hc).2
/-- the best of lo .. hi - 1 -/
def bestR (P : Nat → Bool) (W : Nat → Nat) (lo hi : Nat) (o : Option Nat) : Prop := match o with
  | none => ∀ s, lo ≤ s → s < hi → P s = false
  | some b => lo ≤ b ∧ b < hi ∧ P b = true ∧ ∀ s, lo ≤ s → s < hi → P s = true → lex (W b) b (W s) s
theorem best_uniq {P : Nat → Bool} {W : Nat → Nat} {lo hi : Nat} {o o' : Option Nat} (h : bestR P W lo hi o) (h' : bestR P W lo hi o') : o = o' := by
  cases o with
  | none =>
    cases o' with
    | none => rfl
    | some b' =>
      obtain ⟨a1, a2, a3, a4⟩ := h'
      have := h b' a1 a2
      rw [this] at a3
      exact absurd a3 (by decide)
  | some b =>
    obtain ⟨b1, b2, b3, b4⟩ := h
    cases o' with
    | none =>
      have := h' b b1 b2
      rw [this] at b3
      exact absurd b3 (by decide)
    | some b' =>
      obtain ⟨a1, a2, a3, a4⟩ := h'
      have h1 := b4 b' a1 a2 a3
      have h2 := a4 b b1 b2 b3
      unfold lex at h1 h2
      exact congrArg some (by omega)
theorem best_up_no {P : Nat → Bool} {W : Nat → Nat} {k : Nat} {o : Option Nat} (h : bestR P W 0 k o) (hp : P k = false) : bestR P W 0 (k + 1) o := by
  cases o with
  | none =>
      intro s a b
      by_cases e : s = k
      · rw [e]; exact hp
      · exact h s a (by omega)
  | some b =>
    obtain ⟨b1, b2, b3, b4⟩ := h
    refine ⟨b1, by omega, b3, fun s a c d => ?_⟩
    by_cases e : s = k
    · rw [e, hp] at d; exact absurd d (by decide)
    · exact b4 s a (by omega) d
theorem best_up_old {P : Nat → Bool} {W : Nat → Nat} {k b : Nat} (h : bestR P W 0 k (some b)) (hw : W b ≤ W k) : bestR P W 0 (k + 1) (some b) := by
  obtain ⟨b1, b2, b3, b4⟩ := h
  refine ⟨b1, by omega, b3, fun s a c d => ?_⟩
  by_cases e : s = k
  · rw [e]; unfold lex; omega
  · exact b4 s a (by omega) d
theorem best_up_new {P : Nat → Bool} {W : Nat → Nat} {k : Nat} {o : Option Nat} (h : bestR P W 0 k o) (hp : P k = true) (hw : ∀ b, o = some b → W k < W b) : bestR P W 0 (k + 1) (some k) := by
  refine ⟨Nat.zero_le _, Nat.lt_succ_self _, hp, fun s a c d => ?_⟩
  by_cases e : s = k
  · rw [e]; exact Or.inr ⟨rfl, Nat.le_refl _⟩
  · cases o with
    | none =>
      have := h s a (by omega)
      rw [this] at d
      exact absurd d (by decide)
    | some b =>
      have h1 := h.2.2.2 s a (by omega) d
      have h2 := hw b rfl
      unfold lex at *
      omega
theorem best_dn_no {P : Nat → Bool} {W : Nat → Nat} {d V : Nat} {o : Option Nat} (h : bestR P W (d + 1) V o) (hp : P d = false) : bestR P W d V o := by
  cases o with
  | none =>
      intro s a b
      by_cases e : s = d
      · rw [e]; exact hp
      · exact h s (by omega) b
  | some b =>
    obtain ⟨b1, b2, b3, b4⟩ := h
    refine ⟨by omega, b2, b3, fun s a c q => ?_⟩
    by_cases e : s = d
    · rw [e, hp] at q; exact absurd q (by decide)
    · exact b4 s (by omega) c q
theorem best_dn_old {P : Nat → Bool} {W : Nat → Nat} {d V b : Nat} (h : bestR P W (d + 1) V (some b)) (hw : W b < W d) : bestR P W d V (some b) := by
  obtain ⟨b1, b2, b3, b4⟩ := h
  refine ⟨by omega, b2, b3, fun s a c q => ?_⟩
  by_cases e : s = d
  · rw [e]; unfold lex; omega
  · exact b4 s (by omega) c q
theorem best_dn_new {P : Nat → Bool} {W : Nat → Nat} {d V : Nat} {o : Option Nat} (hd : d < V) (h : bestR P W (d + 1) V o) (hp : P d = true) (hw : ∀ b, o = some b → W d ≤ W b) : bestR P W d V (some d) := by
  refine ⟨Nat.le_refl _, hd, hp, fun s a c q => ?_⟩
  by_cases e : s = d
  · rw [e]; exact Or.inr ⟨rfl, Nat.le_refl _⟩
  · cases o with
    | none =>
      have := h s (by omega) c
      rw [this] at q
      exact absurd q (by decide)
    | some b =>
      have h1 := h.2.2.2 s (by omega) c q
      have h2 := hw b rfl
      unfold lex at *
      omega
/-! how much is stranded when a set of ships is kept -/
theorem sailK_5 {M s : Nat → Nat} (h : okS s) : ∀ n, s 5 ≤ sailK M s n 5
  | 0 => Nat.le_refl _
  | n + 1 => Nat.le_trans (sailK_5 h n) (sailN_5 (okS_sailK h n))
theorem sailK_port {M s : Nat → Nat} (h : s 4 = 1) : ∀ n, sailK M s n = s
  | 0 => rfl
  | n + 1 => by
    show sailN _ _ (sailK M s n) = s
    rw [sailK_port h n]
    unfold sailN
    rw [if_pos h]
def kpG (M : Nat → Nat) (n s : Nat) : Nat := smN (fun i => if s.testBit i then shipN M i 5 else sailK M (shipN M i) n 5) (M 1)
def gnG (M : Nat → Nat) (n s : Nat) : Nat → Nat := fun i => if s.testBit i then 0 else sailK M (shipN M i) n 5 - shipN M i 5
theorem smN_add {f g h : Nat → Nat} : ∀ {k}, (∀ j, j < k → h j = f j + g j) → smN h k = smN f k + smN g k
  | 0, _ => rfl
  | k + 1, e => by
    show smN h k + h k = (smN f k + f k) + (smN g k + g k)
    rw [smN_add (fun j hj => e j (by omega)), e k (Nat.lt_succ_self k)]
    omega
theorem kpG_eq {T : Nat} {M : Nat → Nat} (ok : okT T M) (n s : Nat) : kpG M n s = smN (fun i => shipN M i 5) (M 1) + smN (gnG M n s) (M 1) := by
  have hM1 := ok.2.1
  unfold kpG
  refine smN_add (fun j hj => ?_)
  have := sailK_5 (M := M) (okT_S ok (i := j) (by omega)) n
  unfold gnG
  by_cases c : s.testBit j = true
  · rw [if_pos c, if_pos c, Nat.add_zero]
  · rw [if_neg c, if_neg c]
    omega
theorem tb_bit (s i : Nat) : (s / 2 ^ i) &&& 1 = if s.testBit i then 1 else 0 := by rw [Nat.and_one_is_mod, bit_is]
theorem l_gain {N s n T : Nat} {M : Nat → Nat} {τ : tw_T} (ok : okT T M) (hs : s < 256) (hg : ∀ j, j < M 1 → τ 47 j = nI (sailK M (shipN M j) n 5 - shipN M j 5)) : ∀ d k fuel, k + d = M 1 → d < fuel →
    lf_X8_gainWithout_5 N fuel (nI s) (nI (M 1)) (nI (smN (gnG M n s) k)) (nI k) τ = nI (smN (gnG M n s) (M 1)) ∧ lo_X8_gainWithout_5 N fuel (nI s) (nI (M 1)) (nI (smN (gnG M n s) k)) (nI k) τ := by
  have hM1 := ok.2.1
  intro d
  induction d with
  | zero =>
    intro k fuel hk hf
    obtain ⟨u, rfl⟩ : ∃ u, fuel = u + 1 := ⟨fuel - 1, by omega⟩
    have e : k = M 1 := by omega
    subst e
    have hle : nI (M 1) ≤ nI (M 1) := nI_le (Nat.le_refl _) (by omega)
    rw [lf_X8_gainWithout_5, lo_X8_gainWithout_5, if_pos hle, if_pos hle]
    exact ⟨rfl, trivial⟩
  | succ d ih =>
    intro k fuel hk hf
    obtain ⟨u, rfl⟩ : ∃ u, fuel = u + 1 := ⟨fuel - 1, by omega⟩
    have hgt := nI_ge (show k < M 1 by omega) (show M 1 < 2 ^ 31 by omega)
    have hv : vp_in (nI k) 8 := vp_in_nI (by omega) (by decide)
    have eb : (nI s >>> (nI k &&& 31)) &&& 1 = nI (if s.testBit k then 1 else 0) := by
      rw [q_shr (by omega) (by omega), ← tb_bit, q_1, q_and]
    obtain ⟨a1, a2⟩ := ih (k + 1) u (by omega) (by omega)
    rw [lf_X8_gainWithout_5, lo_X8_gainWithout_5, if_neg hgt, if_neg hgt, eb, nI_clamp (by omega), hg k (by omega), nI_add, nI_1]
    by_cases c : s.testBit k = true
    · have e1 : smN (gnG M n s) (k + 1) = smN (gnG M n s) k := by
        show smN (gnG M n s) k + gnG M n s k = _
        unfold gnG
        rw [if_pos c, Nat.add_zero]
      rw [e1] at a1 a2
      have hne : ¬ nI 1 = (0 : Int32) := by decide
      rw [if_pos c, if_neg hne, if_neg hne]
      exact ⟨a1, a2⟩
    · have e1 : smN (gnG M n s) (k + 1) = smN (gnG M n s) k + (sailK M (shipN M k) n 5 - shipN M k 5) := by
        show smN (gnG M n s) k + gnG M n s k = _
        unfold gnG
        rw [if_neg c]
      rw [e1] at a1 a2
      have he : nI 0 = (0 : Int32) := rfl
      rw [if_neg c, if_pos he, if_pos he]
      exact ⟨a1, hv, a2⟩
def pcW (s : Nat) : Nat := pcN 24 s
theorem pcW_le {m s : Nat} (hm : m ≤ 8) (hs : s < 2 ^ m) : pcW s ≤ m := by
  have h1 := pcN_add (24 - m) 0 m s hs
  rw [Nat.mul_zero, Nat.add_zero, pcN_0, Nat.add_zero, show m + (24 - m) = 24 by omega] at h1
  unfold pcW
  rw [h1]
  exact pcN_le m s
def wO (m : Nat) (o : Option Nat) : Nat := match o with
  | none => m + 1
  | some b => pcW b
theorem pow8 {m : Nat} (h : m ≤ 8) : 2 ^ m ≤ 256 := Nat.pow_le_pow_right (n := 2) (by decide) h
theorem room_lt {v S G : Nat} (hv : v < 2 ^ 30) (hS : S < 2 ^ 30) (hG : G < 2 ^ 30) : (nI v - nI S < nI G) ↔ v < S + G := by
  rw [Int32.lt_iff_toInt_lt, pk_sub_toInt hv hS, nI_toInt (by omega)]
  omega
theorem l_few {N v n T : Nat} {M : Nat → Nat} {τ : tw_T} (ok : okT T M) (hv : v < 10000) (hN : 9 ≤ N) (hg : ∀ j, j < M 1 → τ 47 j = nI (sailK M (shipN M j) n 5 - shipN M j 5)) : ∀ d k fuel o, k + d = 2 ^ M 1 → d < fuel → bestR (fun s => decide (kpG M n s ≤ v)) pcW 0 k o →
    ∃ o', bestR (fun s => decide (kpG M n s ≤ v)) pcW 0 (2 ^ M 1) o' ∧ lf_X8_fewestToKeep_10 N fuel (nI (M 1)) (nI v - nI (smN (fun i => shipN M i 5) (M 1))) (resB o) (nI (wO (M 1) o)) (nI k) τ = resB o' ∧ lo_X8_fewestToKeep_10 N fuel (nI (M 1)) (nI v - nI (smN (fun i => shipN M i 5) (M 1))) (resB o) (nI (wO (M 1) o)) (nI k) τ := by
  have hM1 := ok.2.1
  have hp := pow8 hM1
  have hS : smN (fun i => shipN M i 5) (M 1) ≤ M 1 * 9999 := smN_le (fun j hj => Nat.le_of_lt_succ (okT_S ok (i := j) (by omega)).2.2.2.2.2.1)
  have hS2 : M 1 * 9999 ≤ 8 * 9999 := Nat.mul_le_mul_right _ hM1
  have hG : ∀ s, smN (gnG M n s) (M 1) ≤ M 1 * 9999 := fun s => smN_le (fun j hj => by
    have := (okS_sailK (M := M) (okT_S ok (i := j) (by omega)) n).2.2.2.2.2.1
    unfold gnG
    split <;> omega)
  intro d
  induction d with
  | zero =>
    intro k fuel o hk hf hb
    obtain ⟨u, rfl⟩ : ∃ u, fuel = u + 1 := ⟨fuel - 1, by omega⟩
    have e : k = 2 ^ M 1 := by omega
    subst e
    have hle : nI (2 ^ M 1) ≤ nI (2 ^ M 1) := nI_le (Nat.le_refl _) (by omega)
    rw [lf_X8_fewestToKeep_10, lo_X8_fewestToKeep_10, q_bit (by omega), if_pos hle, if_pos hle]
    exact ⟨o, hb, rfl, trivial⟩
  | succ d ih =>
    intro k fuel o hk hf hb
    obtain ⟨u, rfl⟩ : ∃ u, fuel = u + 1 := ⟨fuel - 1, by omega⟩
    have hgt : ¬ nI (2 ^ M 1) ≤ nI k := nI_ge (by omega) (by omega)
    have hwk := pcW_le hM1 (show k < 2 ^ M 1 by omega)
    have hwo : wO (M 1) o ≤ 9 := by
      cases o with
      | none => show M 1 + 1 ≤ 9; omega
      | some b =>
        have := pcW_le hM1 (show b < 2 ^ M 1 by have := hb.2.1; omega)
        show pcW b ≤ 9
        omega
    obtain ⟨g1, g2⟩ := l_gain (N := N) (s := k) (n := n) (τ := τ) ok (by omega) hg (M 1) 0 N (by omega) (by omega)
    have g1' : f_X8_gainWithout N (nI k) (nI (M 1)) τ = nI (smN (gnG M n k) (M 1)) := g1
    have g2' : p_X8_gainWithout N (nI k) (nI (M 1)) τ := g2
    have hGk := hG k
    have hP : (decide (kpG M n k ≤ v) = true) ↔ ¬ (v < smN (fun i => shipN M i 5) (M 1) + smN (gnG M n k) (M 1)) := by
      rw [decide_eq_true_eq, kpG_eq ok]
      omega
    rw [lf_X8_fewestToKeep_10, lo_X8_fewestToKeep_10, q_bit (by omega), if_neg hgt, if_neg hgt, c_bits (by omega), g1', nI_1]
    simp only [nI_leI (show wO (M 1) o < 2 ^ 31 by omega) (show pcN 24 k < 2 ^ 31 by unfold pcW at hwk; omega), room_lt (show v < 2 ^ 30 by omega) (show smN (fun i => shipN M i 5) (M 1) < 2 ^ 30 by omega) (show smN (gnG M n k) (M 1) < 2 ^ 30 by omega)]
    by_cases c1 : wO (M 1) o ≤ pcN 24 k
    · rw [if_pos c1, if_pos c1]
      have hb' : bestR (fun s => decide (kpG M n s ≤ v)) pcW 0 (k + 1) o := by
        cases o with
        | none =>
          have : M 1 + 1 ≤ pcW k := c1
          omega
        | some b => exact best_up_old hb c1
      exact ih (k + 1) u o (by omega) (by omega) hb'
    · rw [if_neg c1, if_neg c1]
      by_cases c2 : v < smN (fun i => shipN M i 5) (M 1) + smN (gnG M n k) (M 1)
      · rw [if_pos c2, if_pos c2]
        obtain ⟨o', a1, a2, a3⟩ := ih (k + 1) u o (by omega) (by omega) (best_up_no hb (by
          cases h : decide (kpG M n k ≤ v) with
          | false => rfl
          | true => exact absurd c2 (hP.mp h)))
        exact ⟨o', a1, a2, g2', a3⟩
      · rw [if_neg c2, if_neg c2]
        obtain ⟨o', a1, a2, a3⟩ := ih (k + 1) u (some k) (by omega) (by omega) (best_up_new hb (hP.mpr c2) (fun b hb' => by
          subst hb'
          have : ¬ pcW b ≤ pcW k := c1
          omega))
        exact ⟨o', a1, a2, g2', a3⟩
