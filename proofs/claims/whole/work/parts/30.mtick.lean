/-! ===== the reference: a tick ===== -/
def rowT (R : Nat → Int32) (M : Nat → Nat) : Prop := ∀ j, j < 73 → (j < 7 ∧ j ≠ 2 ∨ 17 ≤ j) → R j = nI (M j)
def oth (R R' : Nat → Int32) : Prop := ∀ j, (j = 2 ∨ (7 ≤ j ∧ j < 17) ∨ 73 ≤ j) → R j = R' j
def okT (T : Nat) (M : Nat → Nat) : Prop := M 0 ≤ T ∧ M 1 ≤ 8 ∧ ∀ j, 3 ≤ j → j < 73 → (j < 7 ∨ 17 ≤ j) → M j < bd j
theorem okT_mono {T T' : Nat} {M : Nat → Nat} (h : okT T M) (e : T ≤ T') : okT T' M := ⟨Nat.le_trans h.1 e, h.2⟩
theorem okT_L {T : Nat} {M : Nat → Nat} (h : okT T M) : okL T M :=
  ⟨h.1, h.2.2 3 (by decide) (by decide) (by decide), h.2.2 4 (by decide) (by decide) (by decide), h.2.2 5 (by decide) (by decide) (by decide), h.2.2 6 (by decide) (by decide) (by decide)⟩
theorem okS_iff {s : Nat → Nat} : okS s ↔ ∀ f, f < 7 → s f < bdS f := by
  constructor
  · intro h f hf
    obtain ⟨h0, h1, h2, h3, h4, h5, h6⟩ := h
    rcases f7 hf with rfl | rfl | rfl | rfl | rfl | rfl | rfl <;> assumption
  · intro h
    exact ⟨h 0 (by decide), h 1 (by decide), h 2 (by decide), h 3 (by decide), h 4 (by decide), h 5 (by decide), h 6 (by decide)⟩
theorem okT_S {T : Nat} {M : Nat → Nat} (h : okT T M) {i : Nat} (hi : i < 8) : okS (shipN M i) := by
  rw [okS_iff]
  intro f hf
  rw [← bd_ship (i := i) hf]
  exact h.2.2 _ (by omega) (by omega) (by omega)
theorem okT_tick {T : Nat} {M : Nat → Nat} (h : okT T M) : okT (T + 1) (tickN M) := by
  refine ⟨?_, ?_, fun j h1 h2 h3 => ?_⟩
  · rw [tickN_0]; have := h.1; omega
  · rw [tickN_lo M (by decide) (by decide) (by decide)]; exact h.2.1
  · by_cases e6 : j = 6
    · subst e6
      rw [tickN_6]
      exact Nat.mod_lt _ (by decide)
    · by_cases c : 17 ≤ j ∧ j < 17 + 7 * M 1
      · have hm := h.2.1
        have ej : j = 17 + 7 * ((j - 17) / 7) + (j - 17) % 7 := by omega
        have hf : (j - 17) % 7 < 7 := by omega
        have hi : (j - 17) / 7 < M 1 := by omega
        generalize (j - 17) / 7 = i at *
        generalize (j - 17) % 7 = f at *
        subst ej
        rw [tickN_ship M hi hf, bd_ship hf]
        exact okS_iff.mp (okS_sail (okT_S h (by omega))) f hf
      · have e : tickN M j = M j := by
          unfold tickN
          rw [if_neg (by omega), if_neg e6, if_neg c]
        rw [e]
        exact h.2.2 j h1 h2 h3
theorem okT_tk {T : Nat} {M : Nat → Nat} (h : okT T M) : ∀ n, okT (T + n) (tk M n)
  | 0 => h
  | n + 1 => okT_tick (okT_tk h n)
theorem m_at (i f : Nat) (τ : tw_T) : f_X9_shipAt (nI i) (nI f) τ = nI (17 + 7 * i + f) := by
  unfold f_X9_shipAt
  rw [q_17, q_7, pk_mul, nI_add, nI_add]
theorem m_is {i f : Nat} (h : 17 + 7 * i + f < 2 ^ 31) (τ : tw_T) : f_X9_shipIs (nI i) (nI f) τ = τ 191 (17 + 7 * i + f) := by
  unfold f_X9_shipIs
  rw [m_at, nI_clamp h]
theorem m_pis {i f : Nat} (h : 17 + 7 * i + f < 73) (τ : tw_T) : p_X9_shipIs (nI i) (nI f) τ := by
  unfold p_X9_shipIs
  rw [m_at]
  exact ⟨vp_in_nI h (by decide), trivial⟩
theorem m_first {τ : tw_T} {M : Nat → Nat} (h : rowT (τ 191) M) (h3 : M 3 < 4096) (hb : M 0 < 2 ^ 30) : f_X9_firstShows τ = nI (fstN (M 3) (M 0)) := by
  unfold f_X9_firstShows fstN
  have hm : M 0 % 12 < 12 := Nat.mod_lt _ (by decide)
  rw [h 0 (by decide) (by decide), h 3 (by decide) (by decide), q_12, pk_rem (by omega) (by decide) (by decide), q_shr (by omega) (by omega), q_1, q_and, Nat.and_one_is_mod]
theorem m_past {τ : tw_T} {M : Nat → Nat} (h : rowT (τ 191) M) (h3 : M 3 < 4096) (h6 : M 6 < 16777216) (hb : M 0 < 2 ^ 30) : f_X9_pastThen τ = nI (pastN M) := by
  unfold f_X9_pastThen
  have hf := fstN_lt (M 3) (M 0)
  rw [m_first h h3 hb, h 6 (by decide) (by decide), q_2, q_pw, pk_mul, nI_add, pk_rem (by omega) (by decide) (by decide)]
  rfl
theorem m_second {τ : tw_T} {M : Nat → Nat} (h : rowT (τ 191) M) (h3 : M 3 < 4096) (h4 : M 4 < 24) (h5 : M 5 < 2) (h6 : M 6 < 16777216) (hb : M 0 < 2 ^ 30) : f_X9_secondShows τ = nI (sndN M) := by
  unfold f_X9_secondShows sndN
  have hp : pastN M < 16777216 := Nat.mod_lt _ (by decide)
  rw [m_first h h3 hb, m_past h h3 h6 hb, h 5 (by decide) (by decide), h 4 (by decide) (by decide), q_1, q_shr (by omega) (by omega), q_and, Nat.and_one_is_mod]
  simp (disch := omega) only [nI_eq, q_ite]
theorem m_shown {τ : tw_T} {M : Nat → Nat} (h : rowT (τ 191) M) (h3 : M 3 < 4096) (h4 : M 4 < 24) (h5 : M 5 < 2) (h6 : M 6 < 16777216) (hb : M 0 < 2 ^ 30) : f_X9_shownNow τ = nI (shN M) := by
  unfold f_X9_shownNow shN
  rw [m_first h h3 hb, m_second h h3 h4 h5 h6 hb, q_1, q_2, pk_mul, pk_mul, nI_add, Nat.mul_one, Nat.mul_comm (sndN M) 2]
/-- a ship's part of the row -/
def shM (R : Nat → Int32) (i : Nat) (s : Nat → Nat) : Prop := ∀ f, f < 7 → R (17 + 7 * i + f) = nI (s f)
theorem m_near {τ : tw_T} {i : Nat} {s : Nat → Nat} (hi : i < 8) (h : shM (τ 191) i s) (ok : okS s) : f_X9_near (nI i) τ = nI (nearN (s 1)) := by
  obtain ⟨h0, h1, h2, h3, h4, h5, h6⟩ := ok
  unfold f_X9_near nearN
  rw [show (1 : Int32) = nI 1 from rfl, m_is (by omega), h 1 (by decide)]
  simp (disch := omega) only [q_0, q_2, q_8, q_23, pk_sub, nI_ltI, q_or, q_ite]
theorem m_sees {τ : tw_T} {i sh t : Nat} {s : Nat → Nat} (hi : i < 8) (h : shM (τ 191) i s) (h0' : τ 191 0 = nI t) (ok : okS s) (hs : sh < 4) (ht : t < 2 ^ 31) : f_X9_sees (nI i) (nI sh) τ = nI (seeN s sh t) := by
  have hn := m_near hi h ok
  obtain ⟨h0, h1, h2, h3, h4, h5, h6⟩ := ok
  have e0 := h 0 (by decide)
  have e1 := h 1 (by decide)
  have e3 := h 3 (by decide)
  have x3 : (nI 3 &&& (nI sh ^^^ (-nI 1)) : Int32) = nI (sh ^^^ 3) := by
    have : ∀ x, x < 4 → (nI 3 &&& (nI x ^^^ (-nI 1)) : Int32) = nI (x ^^^ 3) := by decide
    exact this sh hs
  unfold f_X9_sees seeN
  have m1 : t % 2 < 2 := Nat.mod_lt _ (by decide)
  have m2 : s 1 % 2 < 2 := Nat.mod_lt _ (by decide)
  simp (disch := omega) only [q_0, q_1, q_2, q_3, q_4, q_5, q_6, m_is, hn, h0', e0, e1, e3, pk_rem, nI_eq, nI_ltI, q_and, x3, q_ite]
theorem m_goes {τ : tw_T} {i t : Nat} {s : Nat → Nat} (hi : i < 8) (h : shM (τ 191) i s) (h0' : τ 191 0 = nI t) (ok : okS s) (ht : t < 2 ^ 31) : f_X9_goes (nI i) τ = nI (goN s t) := by
  obtain ⟨h0, h1, h2, h3, h4, h5, h6⟩ := ok
  have e0 := h 0 (by decide)
  have e3 := h 3 (by decide)
  unfold f_X9_goes
  have m1 : t % 2 < 2 := Nat.mod_lt _ (by decide)
  simp (disch := omega) only [q_0, q_1, q_2, q_3, q_4, q_5, q_6, m_is, h0', e0, e3, pk_rem, nI_eq, nI_leI, pk_mul, nI_add, pk_sub, q_ite]
  refine congrArg nI ?_
  unfold goN
  repeat' split
  all_goals omega
theorem m_bits4 {N e : Nat} (he : e < 4) (hN : 3 ≤ N) (τ : tw_T) : f_X9_bits N (nI e) τ = nI (popN e) ∧ p_X9_bits N (nI e) τ := by
  obtain ⟨n, rfl⟩ : ∃ n, N = n + 3 := ⟨N - 3, by omega⟩
  unfold f_X9_bits p_X9_bits
  rcases (show e = 0 ∨ e = 1 ∨ e = 2 ∨ e = 3 by omega) with rfl | rfl | rfl | rfl
  · rw [lf_X9_bits_4, lo_X9_bits_4, if_pos (show nI 0 = (0 : Int32) from rfl), if_pos (show nI 0 = (0 : Int32) from rfl)]
    exact ⟨rfl, trivial⟩
  · rw [lf_X9_bits_4, lo_X9_bits_4, if_neg (by decide), if_neg (by decide), lf_X9_bits_4, lo_X9_bits_4, if_pos (by decide), if_pos (by decide)]
    exact ⟨rfl, trivial⟩
  · rw [lf_X9_bits_4, lo_X9_bits_4, if_neg (by decide), if_neg (by decide), lf_X9_bits_4, lo_X9_bits_4, if_pos (by decide), if_pos (by decide)]
    exact ⟨rfl, trivial⟩
  · rw [lf_X9_bits_4, lo_X9_bits_4, if_neg (by decide), if_neg (by decide), lf_X9_bits_4, lo_X9_bits_4, if_neg (by decide), if_neg (by decide), lf_X9_bits_4, lo_X9_bits_4, if_pos (by decide), if_pos (by decide)]
    exact ⟨rfl, trivial⟩
