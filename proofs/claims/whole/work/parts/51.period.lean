/-! ===== the calls: period, odds ===== -/
def rotL (p n : Nat) : Nat := (p * 2 ^ n ||| p / 2 ^ (12 - n)) % 4096
def rotR (p n : Nat) : Nat := (p / 2 ^ n ||| p * 2 ^ (12 - n)) % 4096
theorem rot_all : ∀ b, b < 64 → ∀ a, a < 64 → ∀ n, n < 12 → (rotL (a + 64 * b) n == a + 64 * b) = (rotR (a + 64 * b) n == a + 64 * b) := by decide +kernel
theorem rot_iff {p n : Nat} (hp : p < 4096) (hn : n < 12) : rotL p n = p ↔ rotR p n = p := by
  have h := rot_all (p / 64) (by omega) (p % 64) (by omega) n hn
  rw [show p % 64 + 64 * (p / 64) = p by omega] at h
  constructor
  · intro e
    rw [e, beq_self_eq_true] at h
    exact eq_of_beq h.symm
  · intro e
    rw [e, beq_self_eq_true] at h
    exact eq_of_beq h
theorem q_or_lt {a b k : Nat} (ha : a < 2 ^ k) (hb : b < 2 ^ k) : a ||| b < 2 ^ k := Nat.or_lt_two_pow ha hb
theorem l_period {N p : Nat} {τ τ' : tw_T} (hp : p < 4096) (h9 : τ' 191 3 = nI p) : ∀ d n fuel fuel', n + d = 12 → d < fuel → d < fuel' →
    lf_X8_period_13 N fuel (nI p) (nI n) τ = lf_X9_period_2 N fuel' (nI n) τ' ∧ lo_X8_period_13 N fuel (nI p) (nI n) τ ∧ lo_X9_period_2 N fuel' (nI n) τ' := by
  have sub : ∀ n, n ≤ 12 → (12 : Int32) - nI n = nI (12 - n) := fun n h => pk_sub (a := 12) (b := n) h
  have pw : ∀ n, n ≤ 12 → p * 2 ^ n < 2 ^ 24 := fun n h => by
    have : (2 : Nat) ^ n ≤ 2 ^ 12 := Nat.pow_le_pow_right (by decide) h
    have h2 : p * 2 ^ n ≤ p * 2 ^ 12 := Nat.mul_le_mul_left _ this
    omega
  have dv : ∀ n, p / 2 ^ n ≤ p := fun n => Nat.div_le_self _ _
  have e9 : ∀ n, n ≤ 12 → ((((τ' 191 3) >>> (nI n &&& 31)) ||| ((τ' 191 3) <<< ((12 - nI n) &&& 31))) - (((τ' 191 3) >>> (nI n &&& 31)) ||| ((τ' 191 3) <<< ((12 - nI n) &&& 31))) / 4096 * 4096 : Int32) = nI (rotR p n) := fun n h => by
    have b1 := pw (12 - n) (by omega)
    have b2 := dv n
    have b3 : (p / 2 ^ n ||| p * 2 ^ (12 - n)) < 2 ^ 24 := q_or_lt (by omega) b1
    rw [h9, sub n h, q_shr (by omega) (by omega), q_shl (by omega) (by omega), q_or, show (4096 : Int32) = nI 4096 from rfl, pk_rem (by omega) (by decide) (by decide)]
    rfl
  have e8 : ∀ n, n ≤ 12 → (((nI p <<< (nI n &&& 31)) ||| (nI p >>> ((12 - nI n) &&& 31))) &&& 4095 : Int32) = nI (rotL p n) := fun n h => by
    have b1 := pw n h
    rw [sub n h, q_shl (by omega) (by omega), q_shr (by omega) (by omega), q_or, show (4095 : Int32) = nI (2 ^ 12 - 1) from rfl, q_and, Nat.and_two_pow_sub_one_eq_mod]
    rfl
  have rl : ∀ n, rotL p n < 4096 := fun n => Nat.mod_lt _ (by decide)
  have rr : ∀ n, rotR p n < 4096 := fun n => Nat.mod_lt _ (by decide)
  intro d
  induction d with
  | zero =>
    intro n fuel fuel' hi hf hf'
    obtain ⟨u, rfl⟩ : ∃ u, fuel = u + 1 := ⟨fuel - 1, by omega⟩
    obtain ⟨v, rfl⟩ : ∃ v, fuel' = v + 1 := ⟨fuel' - 1, by omega⟩
    have e : n = 12 := by omega
    subst e
    have hle : (12 : Int32) ≤ nI 12 := by decide
    have r12 : rotR p 12 = p := by
      unfold rotR
      rw [show p / 2 ^ 12 = 0 by omega, show (2 : Nat) ^ (12 - 12) = 1 from rfl, Nat.mul_one, Nat.zero_or]
      omega
    have hq : nI (rotR p 12) = τ' 191 3 := by rw [r12, h9]
    rw [lf_X8_period_13, lo_X8_period_13, if_pos hle, if_pos hle, lf_X9_period_2, lo_X9_period_2, e9 12 (by omega), if_pos hq, if_pos hq]
    exact ⟨rfl, trivial, trivial⟩
  | succ d ih =>
    intro n fuel fuel' hi hf hf'
    obtain ⟨u, rfl⟩ : ∃ u, fuel = u + 1 := ⟨fuel - 1, by omega⟩
    obtain ⟨v, rfl⟩ : ∃ v, fuel' = v + 1 := ⟨fuel' - 1, by omega⟩
    have hle : ¬ (12 : Int32) ≤ nI n := nI_ge (a := n) (b := 12) (by omega) (by decide)
    have hb1 := rl n
    have hb2 := rr n
    rw [lf_X8_period_13, lo_X8_period_13, if_neg hle, if_neg hle, lf_X9_period_2, lo_X9_period_2, e9 n (by omega), e8 n (by omega), h9, nI_1]
    obtain ⟨a1, a2, a3⟩ := ih (n + 1) u v (by omega) (by omega) (by omega)
    by_cases c : rotL p n = p
    · have c1 : nI (rotL p n) = nI p := by rw [c]
      have c2 : nI (rotR p n) = nI p := by rw [(rot_iff hp (by omega)).mp c]
      rw [if_pos c1, if_pos c1, if_pos c2, if_pos c2]
      exact ⟨rfl, trivial, trivial⟩
    · have c1 : ¬ nI (rotL p n) = nI p := fun q => c ((nI_eq (by omega) (by omega)).mp q)
      have c2 : ¬ nI (rotR p n) = nI p := fun q => c ((rot_iff hp (by omega)).mpr ((nI_eq (by omega) (by omega)).mp q))
      rw [if_neg c1, if_neg c1, if_neg c2, if_neg c2]
      exact ⟨a1, a2, a3⟩
theorem st_period {c N : Nat} {τ : tw_T} (hI : Inv c τ) (hc : c < 512) (hN : 5000 ≤ N) : p_X8_period N τ ∧ p_X9_period N τ ∧ f_X8_period N τ = f_X9_period N τ ∧ Inv (c + 1) τ := by
  obtain ⟨M, ok, row, spt, ⟨hl, hn, hs⟩, hz⟩ := inv_M hI
  have l3 : M 3 < 4096 := ok.2.2 3 (by decide) (by decide) (by decide)
  obtain ⟨a1, a2, a3⟩ := l_period (N := N) (p := M 3) (τ := τ) (τ' := τ) l3 (row 3 (by decide) (by decide)) 11 1 N N (by omega) (by omega) (by omega)
  unfold p_X8_period p_X9_period f_X8_period f_X9_period
  rw [show τ 2 0 = nI (M 3) from hl.1]
  exact ⟨a2, a3, a1, Inv_mono hI hc⟩
/-! odds -/
theorem l_low {N : Nat} {x0 x1 : Int32} {τ : tw_T} : ∀ d fuel, d < 100 → d < fuel → lo_X8_lowered_3 N fuel x0 x1 (nI d) τ := by
  intro d
  induction d with
  | zero =>
    intro fuel hd hf
    obtain ⟨u, rfl⟩ : ∃ u, fuel = u + 1 := ⟨fuel - 1, by omega⟩
    rw [lo_X8_lowered_3, if_pos (by decide)]
    trivial
  | succ d ih =>
    intro fuel hd hf
    obtain ⟨u, rfl⟩ : ∃ u, fuel = u + 1 := ⟨fuel - 1, by omega⟩
    have hne : ¬ nI (d + 1) = 0 := nI_ne0 (by omega) (by omega)
    have h := ih u (by omega) (by omega)
    rw [lo_X8_lowered_3, pk_m1]
    split
    · trivial
    · refine ⟨hne, ?_⟩
      split
      · refine ⟨hne, ?_⟩
        split
        · exact ⟨hne, trivial⟩
        · exact h
      · exact h
theorem low_1 {N : Nat} (hN : 20 ≤ N) (τ : tw_T) {l : Nat} (hl : l ≤ 12) : f_X8_lowered N (nI l) 12 τ = nI (l / Nat.gcd 12 l) ∧ f_X8_lowered N 12 (nI l) τ = nI (12 / Nat.gcd 12 l) := by
  obtain ⟨n, rfl⟩ : ∃ n, N = n + 20 := ⟨N - 20, by omega⟩
  rcases (show l = 0 ∨ l = 1 ∨ l = 2 ∨ l = 3 ∨ l = 4 ∨ l = 5 ∨ l = 6 ∨ l = 7 ∨ l = 8 ∨ l = 9 ∨ l = 10 ∨ l = 11 ∨ l = 12 by omega) with rfl | rfl | rfl | rfl | rfl | rfl | rfl | rfl | rfl | rfl | rfl | rfl | rfl <;> exact ⟨rfl, rfl⟩
theorem l_pow {N n g l : Nat} {x2 : Int32} {τ τ' : tw_T} {base x5 : Int32} (hg : 0 < g) (hg2 : g < 2 ^ 31) (hn : n ≤ 17) (hb : base = if x2 = 0 then nI l / nI g else 12 / nI g) : ∀ d i fuel fuel' (acc : Int64), i + d = n → d < fuel → d < fuel' →
    lf_X8_power_5 N fuel base (nI n) acc (nI i) τ = lf_X9_odds_73 N fuel' (nI n) x2 (nI l) (nI g) x5 acc (nI i) τ' ∧ lo_X8_power_5 N fuel base (nI n) acc (nI i) τ ∧ lo_X9_odds_73 N fuel' (nI n) x2 (nI l) (nI g) x5 acc (nI i) τ' ∧ lg_X9_odds_73 N fuel' (nI n) x2 (nI l) (nI g) x5 acc (nI i) τ' = τ' := by
  have hne : ¬ nI g = 0 := nI_ne0 hg hg2
  intro d
  induction d with
  | zero =>
    intro i fuel fuel' acc hi hf hf'
    obtain ⟨u, rfl⟩ : ∃ u, fuel = u + 1 := ⟨fuel - 1, by omega⟩
    obtain ⟨v, rfl⟩ : ∃ v, fuel' = v + 1 := ⟨fuel' - 1, by omega⟩
    have e : i = n := by omega
    subst e
    have hle : nI i ≤ nI i := nI_le (Nat.le_refl i) (by omega)
    rw [lf_X8_power_5, lo_X8_power_5, lf_X9_odds_73, lo_X9_odds_73, lg_X9_odds_73, if_pos hle, if_pos hle, if_pos hle, if_pos hle, if_pos hle]
    exact ⟨rfl, trivial, trivial, rfl⟩
  | succ d ih =>
    intro i fuel fuel' acc hi hf hf'
    obtain ⟨u, rfl⟩ : ∃ u, fuel = u + 1 := ⟨fuel - 1, by omega⟩
    obtain ⟨v, rfl⟩ : ∃ v, fuel' = v + 1 := ⟨fuel' - 1, by omega⟩
    have hgt := nI_ge (show i < n by omega) (show n < 2 ^ 31 by omega)
    rw [lf_X8_power_5, lo_X8_power_5, lf_X9_odds_73, lo_X9_odds_73, lg_X9_odds_73, if_neg hgt, if_neg hgt, if_neg hgt, if_neg hgt, if_neg hgt, nI_1]
    obtain ⟨a1, a2, a3, a4⟩ := ih (i + 1) u v (acc * base.toInt64) (by omega) (by omega) (by omega)
    by_cases c : x2 = 0
    · rw [if_pos c] at hb
      rw [if_pos c, if_pos c, if_pos c, ← hb]
      exact ⟨a1, a2, ⟨hne, a3⟩, a4⟩
    · rw [if_neg c] at hb
      rw [if_neg c, if_neg c, if_neg c, ← hb]
      exact ⟨a1, a2, ⟨hne, a3⟩, a4⟩
theorem ml_gcd {N : Nat} {x1 x2 x3 : Int32} {τ : tw_T} : ∀ e f fuel, e ≤ 12 → f ≤ 12 → e < fuel →
    lf_X9_odds_44 N fuel x1 x2 x3 (nI f) (nI e) τ = lf_X9_odds_73 N N x1 x2 x3 (nI (Nat.gcd f e)) 0 1 0 τ ∧ lg_X9_odds_44 N fuel x1 x2 x3 (nI f) (nI e) τ = lg_X9_odds_73 N N x1 x2 x3 (nI (Nat.gcd f e)) 0 1 0 τ ∧ (lo_X9_odds_73 N N x1 x2 x3 (nI (Nat.gcd f e)) 0 1 0 τ → lo_X9_odds_44 N fuel x1 x2 x3 (nI f) (nI e) τ) := by
  intro e
  induction e using Nat.strongRecOn with
  | ind e ih =>
    intro f fuel he hf hfu
    obtain ⟨u, rfl⟩ : ∃ u, fuel = u + 1 := ⟨fuel - 1, by omega⟩
    rw [lf_X9_odds_44, lg_X9_odds_44, lo_X9_odds_44]
    rcases Nat.eq_zero_or_pos e with z | z
    · subst z
      have h0 : nI 0 = (0 : Int32) := rfl
      rw [if_pos h0, if_pos h0, if_pos h0, Nat.gcd_zero_right]
      exact ⟨rfl, rfl, id⟩
    · have hne : ¬ nI e = 0 := nI_ne0 z (by omega)
      have hm := Nat.mod_lt f z
      rw [if_neg hne, if_neg hne, if_neg hne, pk_rem (by omega) z (by omega)]
      obtain ⟨a1, a2, a3⟩ := ih (f % e) hm e u (by omega) he (by omega)
      have eg : Nat.gcd f e = Nat.gcd e (f % e) := by
        rw [Nat.gcd_comm f e, Nat.gcd_rec e f, Nat.gcd_comm]
      rw [eg]
      exact ⟨a1, a2, fun h => ⟨hne, a3 h⟩⟩
theorem st_odds {c N : Nat} {τ : tw_T} (hI : Inv c τ) (hc : c < 512) (hN : 5000 ≤ N) (x1 x2 : Int32) : p_X8_odds N x1 x2 τ ∧ p_X9_odds N x1 x2 (g_X8_odds N x1 x2 τ) ∧ f_X8_odds N x1 x2 τ = f_X9_odds N x1 x2 (g_X8_odds N x1 x2 τ) ∧ Inv (c + 1) (g_X9_odds N x1 x2 (g_X8_odds N x1 x2 τ)) := by
  obtain ⟨M, ok, row, spt, ⟨hl, hn, hs⟩, hz⟩ := inv_M hI
  have l3 : M 3 < 4096 := ok.2.2 3 (by decide) (by decide) (by decide)
  obtain ⟨q1, q2⟩ := fail_B hI hc
  unfold p_X8_odds p_X9_odds f_X9_odds g_X9_odds f_X8_odds g_X8_odds
  by_cases h : f_X8_within x1 0 17 τ = 0
  · have h9 : ∀ τ', f_X9_within x1 0 17 τ' = 0 := fun τ' => h
    simp only [h, h9, if_true]
    exact ⟨trivial, ⟨q1, trivial⟩, rfl, q2⟩
  have h9 : ∀ τ', ¬ f_X9_within x1 0 17 τ' = 0 := fun τ' => h
  by_cases h2 : f_X8_within x2 0 1 τ = 0
  · have h29 : ∀ τ', f_X9_within x2 0 1 τ' = 0 := fun τ' => h2
    simp only [h, h9, h2, h29, if_true, if_false]
    exact ⟨trivial, ⟨q1, trivial⟩, rfl, q2⟩
  have h29 : ∀ τ', ¬ f_X9_within x2 0 1 τ' = 0 := fun τ' => h2
  obtain ⟨n, hn17, rfl⟩ := w_of (n := 17) rfl (by decide) h
  have e8 : τ 2 0 = nI (M 3) := hl.1
  have e9 : τ 191 3 = nI (M 3) := row 3 (by decide) (by decide)
  have l12 : pcN 24 (M 3) ≤ 12 := by
    have h1 := pcN_add 12 0 12 (M 3) l3
    rw [Nat.mul_zero, Nat.add_zero, pcN_0, Nat.add_zero] at h1
    have h2 : pcN 24 (M 3) = pcN 12 (M 3) := h1
    rw [h2]
    exact pcN_le 12 _
  obtain ⟨b1, b2⟩ := m_bits (N := N) (n := M 3) (by omega) (by omega) τ
  have b8 := c_bits (n := M 3) (by omega) τ
  simp only [h, h9, h2, h29, e8, e9, b1, b8, if_false]
  generalize pcN 24 (M 3) = l at *
  have hg : 0 < Nat.gcd 12 l := Nat.gcd_pos_of_pos_left _ (by decide)
  have hg2 : Nat.gcd 12 l ≤ 12 := Nat.gcd_le_left _ (by decide)
  obtain ⟨w1, w2⟩ := low_1 (N := N) (by omega) τ l12
  obtain ⟨g1, g2, g3⟩ := ml_gcd (N := N) (x1 := nI n) (x2 := x2) (x3 := nI l) (τ := τ) l 12 N l12 (by omega) (by omega)
  have g1' : lf_X9_odds_44 N N (nI n) x2 (nI l) 12 (nI l) τ = _ := g1
  have g2' : lg_X9_odds_44 N N (nI n) x2 (nI l) 12 (nI l) τ = _ := g2
  have g3' : _ → lo_X9_odds_44 N N (nI n) x2 (nI l) 12 (nI l) τ := g3
  rw [g1', g2', w1, w2]
  have lo1 : p_X8_lowered N (nI l) 12 τ := l_low 12 N (by decide) (by omega)
  have lo2 : p_X8_lowered N 12 (nI l) τ := l_low 12 N (by decide) (by omega)
  by_cases c : x2 = 0
  · obtain ⟨a1, a2, a3, a4⟩ := l_pow (N := N) (n := n) (g := Nat.gcd 12 l) (l := l) (x2 := x2) (τ := τ) (τ' := τ) (base := nI (l / Nat.gcd 12 l)) (x5 := 0) hg (by omega) hn17 (by rw [if_pos c, pk_div (by omega) hg (by omega)]) n 0 N N 1 (by omega) (by omega) (by omega)
    have a1' : lf_X8_power_5 N N (nI (l / Nat.gcd 12 l)) (nI n) 1 0 τ = lf_X9_odds_73 N N (nI n) x2 (nI l) (nI (Nat.gcd 12 l)) 0 1 0 τ := a1
    have a2' : p_X8_power N (nI (l / Nat.gcd 12 l)) (nI n) τ := a2
    have a4' : lg_X9_odds_73 N N (nI n) x2 (nI l) (nI (Nat.gcd 12 l)) 0 1 0 τ = τ := a4
    rw [a4', if_pos c, if_pos c]
    exact ⟨⟨lo1, a2', trivial⟩, ⟨b2, g3' a3⟩, a1', Inv_mono hI hc⟩
  · obtain ⟨a1, a2, a3, a4⟩ := l_pow (N := N) (n := n) (g := Nat.gcd 12 l) (l := l) (x2 := x2) (τ := τ) (τ' := τ) (base := nI (12 / Nat.gcd 12 l)) (x5 := 0) hg (by omega) hn17 (by rw [if_neg c, q_12, pk_div (by omega) hg (by omega)]) n 0 N N 1 (by omega) (by omega) (by omega)
    have a1' : lf_X8_power_5 N N (nI (12 / Nat.gcd 12 l)) (nI n) 1 0 τ = lf_X9_odds_73 N N (nI n) x2 (nI l) (nI (Nat.gcd 12 l)) 0 1 0 τ := a1
    have a2' : p_X8_power N (nI (12 / Nat.gcd 12 l)) (nI n) τ := a2
    have a4' : lg_X9_odds_73 N N (nI n) x2 (nI l) (nI (Nat.gcd 12 l)) 0 1 0 τ = τ := a4
    rw [a4', if_neg c, if_neg c]
    exact ⟨⟨lo2, a2', trivial⟩, ⟨b2, g3' a3⟩, a1', Inv_mono hI hc⟩
