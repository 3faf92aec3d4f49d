/-! ===== the reference: what is only thought ===== -/
/-- the row that is put back is the row that was -/
theorem cp_back {A B R : Nat → Int32} (h : ∀ j, 73 ≤ j → R j = A j) : cpR (cpR A B) R = A := by
  funext j
  unfold cpR
  by_cases c : j < 73
  · rw [if_pos c, if_pos c]
  · rw [if_neg c, h j (by omega)]
theorem m_think {N T n : Nat} {M : Nat → Nat} {τ : tw_T} (ok : okT T M) (hT : T + n < 2 ^ 30) (hN : 74 ≤ N) (hN2 : n < N) (h : rowT (τ 191) M) :
    ∃ R, g_X9_ticksGo N (nI n) (g_X9_copyRow N 191 193 τ) = tw_sr (tw_sr τ 193 (cpR (τ 191) (τ 193))) 191 R ∧ rowT R (tk M n) ∧ oth R (τ 191) ∧ p_X9_copyRow N 191 193 τ ∧ p_X9_ticksGo N (nI n) (g_X9_copyRow N 191 193 τ) ∧
      g_X9_copyRow N 193 191 (g_X9_ticksGo N (nI n) (g_X9_copyRow N 191 193 τ)) = tw_sr τ 193 (cpR (τ 191) (τ 193)) ∧ p_X9_copyRow N 193 191 (g_X9_ticksGo N (nI n) (g_X9_copyRow N 191 193 τ)) := by
  obtain ⟨c1, c2⟩ := m_cp (N := N) (ra := 191) (rb := 193) (τ := τ) (by decide) (by omega)
  obtain ⟨R, h1, h2, h3, h4⟩ := m_go (N := N) (n := n) (τ := tw_sr τ 193 (cpR (τ 191) (τ 193))) ok hT (by omega) hN2 (by rw [sr_ne (by decide)]; exact h)
  rw [c1, h1]
  rw [sr_ne (by decide)] at h3
  obtain ⟨c3, c4⟩ := m_cp (N := N) (ra := 193) (rb := 191) (τ := tw_sr (tw_sr τ 193 (cpR (τ 191) (τ 193))) 191 R) (by decide) (by omega)
  refine ⟨R, rfl, h2, h3, c2, h4, ?_, c4⟩
  rw [c3, sr_sr, sr_ne (by decide), sr_self, sr_self, cp_back (fun j hj => h3 j (Or.inr (Or.inr hj)))]
  have e : (tw_sr τ 193 (cpR (τ 191) (τ 193))) 191 = τ 191 := sr_ne (by decide)
  have e2 := sr_id (tw_sr τ 193 (cpR (τ 191) (τ 193))) 191
  rw [e] at e2
  exact e2
theorem m_behind {N T n j : Nat} {M : Nat → Nat} {τ : tw_T} (ok : okT T M) (hT : T + n < 2 ^ 30) (hN : 74 ≤ N) (hN2 : n < N) (h : rowT (τ 191) M) (hj : j < 73) (hj2 : j < 7 ∧ j ≠ 2 ∨ 17 ≤ j) :
    f_X9_behind N (nI j) (nI n) τ = nI (tk M n j) ∧ g_X9_behind N (nI j) (nI n) τ = tw_sr τ 193 (cpR (τ 191) (τ 193)) ∧ p_X9_behind N (nI j) (nI n) τ := by
  obtain ⟨R, h1, h2, h3, h4, h5, h6, h7⟩ := m_think (N := N) ok hT hN hN2 h
  unfold f_X9_behind g_X9_behind p_X9_behind f_X9_putBack g_X9_putBack p_X9_putBack
  refine ⟨?_, h6, h4, h5, vp_in_nI hj (by decide), ⟨h7, trivial⟩, trivial⟩
  rw [h1, sr_self, nI_clamp (by omega), h2 j hj hj2]
/-- STRANDED of all together, of the sea M -/
def strA (M : Nat → Nat) : Nat := smN (fun i => M (17 + 7 * i + 5)) (M 1)
theorem m_strA {N T : Nat} {M : Nat → Nat} {τ : tw_T} (ok : okT T M) (h : rowT (τ 191) M) (hN : 9 ≤ N) : f_X9_sumOf N 5 τ = nI (strA M) ∧ p_X9_sumOf N 5 τ :=
  m_sum (a := 5) (by decide) ok.2.1 (h 1 (by decide) (by decide)) (fun j hj => h _ (by have := ok.2.1; omega) (by omega)) (by have := ok.2.1; omega)
theorem strA_lt {T : Nat} {M : Nat → Nat} (ok : okT T M) : strA M < 80000 := by
  have h1 := ok.2.1
  have h2 : strA M ≤ M 1 * 9999 := smN_le (fun j hj => by
    have := ok.2.2 (17 + 7 * j + 5) (by omega) (by omega) (by omega)
    rw [bd_ship (by decide)] at this
    exact Nat.le_of_lt_succ this)
  have : M 1 * 9999 ≤ 8 * 9999 := Nat.mul_le_mul_right _ h1
  omega
theorem m_strBehind {N T n : Nat} {M : Nat → Nat} {τ : tw_T} (ok : okT T M) (hT : T + n < 2 ^ 30) (hN : 74 ≤ N) (hN2 : n < N) (h : rowT (τ 191) M) :
    f_X9_strandedBehind N (nI n) τ = nI (strA (tk M n)) ∧ g_X9_strandedBehind N (nI n) τ = tw_sr τ 193 (cpR (τ 191) (τ 193)) ∧ p_X9_strandedBehind N (nI n) τ := by
  obtain ⟨R, h1, h2, h3, h4, h5, h6, h7⟩ := m_think (N := N) ok hT hN hN2 h
  obtain ⟨s1, s2⟩ := m_strA (N := N) (τ := g_X9_ticksGo N (nI n) (g_X9_copyRow N 191 193 τ)) (okT_tk ok n) (by rw [h1, sr_self]; exact h2) (by omega)
  unfold f_X9_strandedBehind g_X9_strandedBehind p_X9_strandedBehind f_X9_putBack g_X9_putBack p_X9_putBack
  exact ⟨s1, h6, h4, h5, s2, ⟨h7, trivial⟩, trivial⟩
/-! ===== both sides tell one sea M ===== -/
def stC (τ : tw_T) (b : Nat) (M : Nat → Nat) : Prop := litR (τ (b + 1)) M ∧ τ (b + 2) 1 = nI (M 1) ∧ ∀ i, i < M 1 → shR (τ (b + 4 + i)) (shipN M i)
def zsC (τ : tw_T) (b : Nat) (R : Nat → Int32) : Prop := τ b 3 = R 2 ∧ ∀ i, i < 10 → τ (b + 12) i = R (7 + i)
def sptR (R : Nat → Int32) (M : Nat → Nat) : Prop := ∀ i, i < 10 → R (7 + i) = -1 ∨ ∃ k, k < M 1 ∧ R (7 + i) = nI k
theorem sea_iff {c b : Nat} {τ : tw_T} {R : Nat → Int32} : (rng c R ∧ seaR τ b R) ↔ ∃ M, okT (60 * c) M ∧ rowT R M ∧ sptR R M ∧ stC τ b M ∧ zsC τ b R := by
  constructor
  · rintro ⟨⟨M, h1, h2, h3, h4⟩, ⟨l0, l1, l2, l3, l4⟩, s1, s2, s3, s4⟩
    have hM1 := h1.2.1
    have row : rowT R M := fun j a b => by
      rcases b with ⟨b1, b2⟩ | b
      · exact h2 j b1 b2
      · exact h3 j b a
    refine ⟨M, h1, row, h4, ⟨⟨?_, ?_, ?_, ?_, ?_⟩, ?_, fun i hi f hf => ?_⟩, s2, s3⟩
    · rw [l0, row 3 (by decide) (by decide)]
    · rw [l1, row 4 (by decide) (by decide)]
    · rw [l2, row 5 (by decide) (by decide)]
    · rw [l3, row 6 (by decide) (by decide)]
    · rw [l4, row 0 (by decide) (by decide)]
    · rw [s1, row 1 (by decide) (by decide)]
    · rw [s4 i (by omega) (by rw [row 1 (by decide) (by decide)]; exact nI_lt hi (by omega)) f hf, row _ (by omega) (by omega)]
      rfl
  · rintro ⟨M, h1, row, h4, ⟨⟨l0, l1, l2, l3, l4⟩, s1, s4⟩, s2, s3⟩
    have hM1 := h1.2.1
    refine ⟨⟨M, h1, fun j a b => row j (by omega) (Or.inl ⟨a, b⟩), fun j a b => row j b (Or.inr a), h4⟩, ⟨?_, ?_, ?_, ?_, ?_⟩, ?_, s2, s3, fun i hi hn f hf => ?_⟩
    · rw [l0, row 3 (by decide) (by decide)]
    · rw [l1, row 4 (by decide) (by decide)]
    · rw [l2, row 5 (by decide) (by decide)]
    · rw [l3, row 6 (by decide) (by decide)]
    · rw [l4, row 0 (by decide) (by decide)]
    · rw [s1, row 1 (by decide) (by decide)]
    · rw [row 1 (by decide) (by decide), nI_ltI (by omega) (by omega)] at hn
      rw [s4 i hn f hf, row _ (by omega) (by omega)]
      rfl
/-- what the invariant tells of the sea -/
theorem inv_M {c : Nat} {τ : tw_T} (h : Inv c τ) : ∃ M, okT (60 * c) M ∧ rowT (τ 191) M ∧ sptR (τ 191) M ∧ stC τ 1 M ∧ zsC τ 1 (τ 191) := sea_iff.mp h.2.1
theorem inv_of {c : Nat} {τ τ' : tw_T} {M : Nat → Nat} (hI : Inv c τ) (hc : c < 512) (hk : ∀ k, keepC k → τ' k = τ k) (h1 : okT (60 * (c + 1)) M) (h2 : rowT (τ' 191) M) (h3 : sptR (τ' 191) M) (h4 : stC τ' 1 M) (h5 : zsC τ' 1 (τ' 191)) : Inv (c + 1) τ' :=
  Inv_sea hI hc hk (sea_iff.mpr ⟨M, h1, h2, h3, h4, h5⟩)
