/-! ===== an item of a text, read by the reference ===== -/
def mS (B : Nat → Nat) (n b K m : Nat) (τ : tw_T) : Prop := curM B n b τ ∧ τ 190 11 = 0 ∧ τ 190 14 = nI K ∧ τ 190 15 = nI m
def mW (b K : Nat) (τ : tw_T) : Prop := τ 190 11 = 1 ∧ τ 190 7 = nI b ∧ τ 190 14 = nI K
/-- only the reader's own fields change -/
def fr8 (τ τ' : tw_T) : Prop := (∀ q, q ≠ 190 → τ' q = τ q) ∧ ∀ j, j < 7 → τ' 190 j = τ 190 j
theorem fr8_tr {a b c : tw_T} (h : fr8 a b) (g : fr8 b c) : fr8 a c := ⟨fun q hq => by rw [g.1 q hq, h.1 q hq], fun j hj => by rw [g.2 j hj, h.2 j hj]⟩
theorem fr8_id (a : tw_T) : fr8 a a := ⟨fun _ _ => rfl, fun _ _ => rfl⟩
theorem m_must1 {N n b K m : Nat} {B : Nat → Nat} {τ : tw_T} (hn : n ≤ 120) (hB : ∀ j, B j < 256) (hN : 130 ≤ N) (hbn : b ≤ n) (h : mS B n b K m τ) : mS B n (nx B n b) K m (g_X9_must N 1 τ) ∧ fr8 τ (g_X9_must N 1 τ) ∧ p_X9_must N 1 τ := by
  obtain ⟨⟨hb, k7, k8, k9, k10⟩, h11, h14, h15⟩ := h
  have n1 : ¬ (1 : Int32) = 0 := by decide
  have e : upd (τ 190) 11 0 = τ 190 := upd_eq h11
  obtain ⟨⟨r, a1, a2, a3⟩, a4⟩ := m_next (N := N) hn hB hN (eA_le hbn).2 hb k8
  unfold g_X9_must p_X9_must
  rw [if_pos h11, if_pos h11, if_neg n1, if_neg n1, e, sr_id, if_pos h11, if_pos h11, a1]
  refine ⟨⟨⟨tbM_sr hb (a3 6 (by decide)), by rw [sr_self]; exact a2⟩, ?_, ?_, ?_⟩, ⟨fun q hq => sr_ne hq, fun j hj => by rw [sr_self, a3 j (by omega)]⟩, a4, trivial⟩
  · rw [sr_self, a3 11 (by decide)]; exact h11
  · rw [sr_self, a3 14 (by decide)]; exact h14
  · rw [sr_self, a3 15 (by decide)]; exact h15
theorem m_must0 {N n b K m : Nat} {B : Nat → Nat} {τ : tw_T} (h : mS B n b K m τ) : mW b K (g_X9_must N 0 τ) ∧ fr8 τ (g_X9_must N 0 τ) ∧ p_X9_must N 0 τ := by
  obtain ⟨⟨hb, k7, k8, k9, k10⟩, h11, h14, h15⟩ := h
  have z : (0 : Int32) = 0 := rfl
  have e1 : ¬ (tw_sr τ 190 (upd (τ 190) 11 1)) 190 11 = 0 := by rw [sr_self, pk_us]; decide
  unfold g_X9_must p_X9_must
  rw [if_pos h11, if_pos h11, if_pos z, if_pos z, if_neg e1, if_neg e1]
  exact ⟨⟨by rw [sr_self, pk_us], by rw [sr_self, pk_un (by decide)]; exact k7, by rw [sr_self, pk_un (by decide)]; exact h14⟩, ⟨fun q hq => sr_ne hq, fun j hj => by rw [sr_self, pk_un (by omega)]⟩, trivial⟩
theorem m_mustW {N b K : Nat} {x : Int32} {τ : tw_T} (h : mW b K τ) : g_X9_must N x τ = τ ∧ p_X9_must N x τ := by
  have n0 : ¬ τ 190 11 = 0 := by rw [h.1]; decide
  have e : upd (τ 190) 11 1 = τ 190 := upd_eq h.1
  unfold g_X9_must p_X9_must
  rw [if_neg n0, if_neg n0, e, sr_id, if_neg n0, if_neg n0]
  exact ⟨rfl, trivial⟩
theorem m_takes {N n b K m w : Nat} {B : Nat → Nat} {τ : tw_T} (hn : n ≤ 120) (hB : ∀ j, B j < 256) (hN : 130 ≤ N) (hbn : b ≤ n) (hw : w < 14) (h : mS B n b K m τ) : f_X9_takesWord N (14 + w) τ = boolI (wdB B n b (wL w)) ∧ p_X9_takesWord N (14 + w) τ ∧ mS B n (if wdB B n b (wL w) then nx B n b else b) K m (g_X9_takesWord N (14 + w) τ) ∧ fr8 τ (g_X9_takesWord N (14 + w) τ) := by
  obtain ⟨w1, w2⟩ := m_word (N := N) (w := 14 + w) (by omega) hn (by omega) hbn h.1
  rw [byt_same w hw] at w1
  have w1' : f_X9_isWord N (14 + w) τ = boolI (wdB B n b (wL w)) := w1
  unfold f_X9_takesWord p_X9_takesWord g_X9_takesWord
  rw [if_pos h.2.1, if_pos h.2.1, if_pos h.2.1, w1']
  by_cases c : wdB B n b (wL w) = true
  · obtain ⟨a1, a2, a3⟩ := m_must1 (N := N) hn hB hN hbn h
    rw [if_neg (bo_t c), if_neg (bo_t c), if_neg (bo_t c), if_pos c, c]
    exact ⟨rfl, ⟨w2, a3, trivial⟩, a1, a2⟩
  · have c' : wdB B n b (wL w) = false := by simpa using c
    rw [if_pos (bo_f c), if_pos (bo_f c), if_pos (bo_f c), if_neg c, c']
    exact ⟨rfl, ⟨w2, trivial⟩, h, fr8_id τ⟩
theorem m_takesW {N b K w : Nat} {τ : tw_T} (h : mW b K τ) : f_X9_takesWord N w τ = 0 ∧ g_X9_takesWord N w τ = τ ∧ p_X9_takesWord N w τ := by
  have n0 : ¬ τ 190 11 = 0 := by rw [h.1]; decide
  unfold f_X9_takesWord p_X9_takesWord g_X9_takesWord
  rw [if_neg n0, if_neg n0, if_neg n0]
  exact ⟨rfl, rfl, trivial⟩
theorem wi9_nI {v hi : Nat} (hv : v ≤ 10000) (hh : hi < 5000) (τ : tw_T) : f_X9_within (nI v) 0 (nI hi) τ = 0 ↔ ¬ v < hi + 1 := by
  unfold f_X9_within
  have h1 : ¬ nI v < 0 := nI_pos (by omega)
  rw [if_neg h1]
  by_cases c : v ≤ hi
  · have h2 : ¬ nI hi < nI v := nI_nlt c (by omega)
    rw [if_neg h2]
    exact ⟨fun q => absurd q (by decide), fun q => absurd (show v < hi + 1 by omega) q⟩
  · have h2 : nI hi < nI v := nI_lt (by omega) (by omega)
    rw [if_pos h2]
    exact ⟨fun _ => by omega, fun _ => rfl⟩
/-- a number, at the cursor behind b -/
theorem m_numb {N n b K m hi : Nat} {B : Nat → Nat} {τ : tw_T} (hn : n ≤ 120) (hB : ∀ j, B j < 256) (hN : 130 ≤ N) (hbn : b ≤ n) (hh : hi < 5000) (h : mS B n (nx B n b) K m τ) : p_X9_number N 0 (nI hi) τ ∧ fr8 τ (g_X9_number N 0 (nI hi) τ) ∧ (okN B n b (hi + 1) = true → f_X9_number N 0 (nI hi) τ = nI (vA B n (nx B n b)) ∧ mS B n (nx B n (nx B n b)) K m (g_X9_number N 0 (nI hi) τ)) ∧ (okN B n b (hi + 1) = false → mW (nx B n b) K (g_X9_number N 0 (nI hi) τ)) := by
  have hnx := (nx_le (B := B) hbn).2
  obtain ⟨z1, z2, z3⟩ := m_must0 (N := N) h
  obtain ⟨a1, a2, a3⟩ := m_must1 (N := N) hn hB hN hnx h
  obtain ⟨⟨hb, k7, k8, k9, k10⟩, h11, h14, h15⟩ := h
  have hta := tA_le B n (nx B n b)
  have e2 : (nI (tA B n (nx B n b)) = (2 : Int32)) ↔ tA B n (nx B n b) = 2 := nI_eq (b := 2) (by omega) (by decide)
  have hv := vA_le B n (nx B n b)
  unfold f_X9_number g_X9_number p_X9_number
  rw [k9, k10]
  simp only [e2]
  by_cases c1 : tA B n (nx B n b) = 2
  · rw [if_pos c1, if_pos c1, if_pos c1, if_pos c1]
    simp only [wi9_nI hv hh]
    by_cases c2 : vA B n (nx B n b) < hi + 1
    · have c2' : ¬ ¬ vA B n (nx B n b) < hi + 1 := fun q => q c2
      have hok : okN B n b (hi + 1) = true := by unfold okN; rw [decide_eq_true c1, decide_eq_true c2]; rfl
      rw [if_neg c2', if_neg c2', if_neg c2', hok]
      exact ⟨⟨a3, trivial⟩, a2, fun _ => ⟨rfl, a1⟩, fun q => absurd q (by decide)⟩
    · have hok : okN B n b (hi + 1) = false := by unfold okN; rw [decide_eq_true c1, decide_eq_false c2]; rfl
      rw [if_pos c2, if_pos c2, if_pos c2, hok]
      exact ⟨⟨z3, trivial⟩, z2, fun q => absurd q (by decide), fun _ => z1⟩
  · have hok : okN B n b (hi + 1) = false := by unfold okN; rw [decide_eq_false c1]; rfl
    rw [if_neg c1, if_neg c1, if_neg c1, hok]
    exact ⟨⟨z3, trivial⟩, z2, fun q => absurd q (by decide), fun _ => z1⟩
theorem m_add {K : Nat} {x1 x2 x3 x4 x5 : Int32} {τ : tw_T} (hK : K < 120) (h : τ 190 14 = nI K) : ∃ r, g_X9_addItem x1 x2 x3 x4 x5 τ = tw_sr (tw_sr τ 197 r) 190 (upd (τ 190) 14 (nI (K + 1))) ∧ (r (5 * K) = x1 ∧ r (5 * K + 1) = x2 ∧ r (5 * K + 2) = x3 ∧ r (5 * K + 3) = x4 ∧ r (5 * K + 4) = x5) ∧ (∀ j, j < 5 * K → r j = τ 197 j) ∧ p_X9_addItem x1 x2 x3 x4 x5 τ := by
  have e5 : 5 * nI K = nI (5 * K) := pk_mul 5 K
  have e1 : nI (5 * K) + 1 = nI (5 * K + 1) := nI_add _ 1
  have e2 : nI (5 * K) + 2 = nI (5 * K + 2) := nI_add _ 2
  have e3 : nI (5 * K) + 3 = nI (5 * K + 3) := nI_add _ 3
  have e4 : nI (5 * K) + 4 = nI (5 * K + 4) := nI_add _ 4
  unfold g_X9_addItem p_X9_addItem
  simp (disch := decide) only [sr_self, sr_sr, sr_ne, h, e5, e1, e2, e3, e4, nI_1]
  rw [nI_clamp (by omega), nI_clamp (by omega), nI_clamp (by omega), nI_clamp (by omega), nI_clamp (by omega)]
  refine ⟨_, rfl, ⟨?_, ?_, ?_, ?_, ?_⟩, fun j hj => ?_, vp_in_nI (by omega) (by decide), vp_in_nI (by omega) (by decide), vp_in_nI (by omega) (by decide), vp_in_nI (by omega) (by decide), vp_in_nI (by omega) (by decide), trivial⟩
  · rw [pk_un (by omega), pk_un (by omega), pk_un (by omega), pk_un (by omega), pk_us]
  · rw [pk_un (by omega), pk_un (by omega), pk_un (by omega), pk_us]
  · rw [pk_un (by omega), pk_un (by omega), pk_us]
  · rw [pk_un (by omega), pk_us]
  · rw [pk_us]
  · rw [pk_un (by omega), pk_un (by omega), pk_un (by omega), pk_un (by omega), pk_un (by omega)]
