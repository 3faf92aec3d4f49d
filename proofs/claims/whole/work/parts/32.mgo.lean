/-! ===== the reference: ticks go ===== -/
theorem m_vp {i f : Nat} (h : 17 + 7 * i + f < 73) (τ : tw_T) : vp_in (f_X9_shipAt (nI i) (nI f) τ) 73 = True := by
  rw [m_at]
  exact eq_true (vp_in_nI h (by decide))
theorem m_pisT {i f : Nat} (h : 17 + 7 * i + f < 73) (τ : tw_T) : p_X9_shipIs (nI i) (nI f) τ = True := eq_true (m_pis h τ)
set_option maxHeartbeats 4000000 in
theorem m_psteers {τ : tw_T} {i e N : Nat} (hi : i < 8) (he : e < 4) (hN : 3 ≤ N) : p_X9_steers N (nI i) (nI e) τ := by
  have hbit := fun τ => eq_true (m_bits4 he hN τ).2
  unfold p_X9_steers p_X9_goes
  simp (disch := omega) only [q_0, q_1, q_2, q_3, q_4, q_5, q_6, m_vp, m_pisT, hbit, and_true, true_and, ite_self]
theorem m_psees {τ : tw_T} {i : Nat} {x : Int32} (hi : i < 8) : p_X9_sees (nI i) x τ := by
  unfold p_X9_sees p_X9_near
  simp (disch := omega) only [q_0, q_1, q_2, q_3, q_4, q_5, q_6, m_pisT, and_true, true_and, ite_self]
theorem m_out {τ : tw_T} {i : Nat} {s : Nat → Nat} (hi : i < 8) (h : shM (τ 191) i s) (ok : okS s) : (f_X9_isOut (nI i) τ = 0 ↔ s 4 = 1) ∧ p_X9_isOut (nI i) τ := by
  have h4 : s 4 < 2 := ok.2.2.2.2.1
  constructor
  · unfold f_X9_isOut
    rw [q_4, m_is (by omega), h 4 (by decide)]
    rcases (show s 4 = 0 ∨ s 4 = 1 by omega) with e | e <;> rw [e] <;> decide
  · unfold p_X9_isOut
    rw [q_4]
    exact ⟨m_pis (by omega) τ, trivial⟩
/-- the row as the tick goes on: the past is told, the ships below i have sailed -/
def goR (M : Nat → Nat) (i : Nat) : Nat → Nat := fun j => if j = 6 then pastN M else if 17 ≤ j ∧ j < 17 + 7 * i then sailN (shN M) (M 0) (shipN M ((j - 17) / 7)) ((j - 17) % 7) else M j
theorem goR_lo (M : Nat → Nat) (i : Nat) {j : Nat} (h6 : j ≠ 6) (h : j < 17) : goR M i j = M j := by
  unfold goR
  rw [if_neg h6, if_neg (by omega)]
theorem goR_in (M : Nat → Nat) {i k f : Nat} (hk : k < i) (hf : f < 7) : goR M i (17 + 7 * k + f) = sailN (shN M) (M 0) (shipN M k) f := by
  unfold goR
  rw [if_neg (by omega), if_pos (by omega), show (17 + 7 * k + f - 17) / 7 = k by omega, show (17 + 7 * k + f - 17) % 7 = f by omega]
theorem goR_out (M : Nat → Nat) {i j : Nat} (h : 17 + 7 * i ≤ j) : goR M i j = M j := by
  unfold goR
  rw [if_neg (by omega), if_neg (by omega)]
theorem goR_succ (M : Nat → Nat) (i j : Nat) : goR M (i + 1) j = if 17 + 7 * i ≤ j ∧ j < 24 + 7 * i then sailN (shN M) (M 0) (shipN M i) (j - 17 - 7 * i) else goR M i j := by
  by_cases c : 17 + 7 * i ≤ j ∧ j < 24 + 7 * i
  · rw [if_pos c]
    obtain ⟨f, rfl⟩ : ∃ f, j = 17 + 7 * i + f := ⟨j - (17 + 7 * i), by omega⟩
    rw [goR_in M (Nat.lt_succ_self i) (by omega), show 17 + 7 * i + f - 17 - 7 * i = f by omega]
  · rw [if_neg c]
    unfold goR
    by_cases d : j = 6
    · rw [if_pos d, if_pos d]
    · rw [if_neg d, if_neg d]
      by_cases d2 : 17 ≤ j ∧ j < 17 + 7 * i
      · rw [if_pos d2, if_pos (by omega)]
      · rw [if_neg d2, if_neg (by omega)]
theorem ml_tick {N T : Nat} {M : Nat → Nat} (ok : okT T M) (hT : T < 2 ^ 30) (hN : 3 ≤ N) : ∀ d i fuel (τ : tw_T), i + d = M 1 → d < fuel → rowT (τ 191) (goR M i) →
    ∃ R, lg_X9_tick_18 N fuel (nI (shN M)) (nI i) τ = tw_sr τ 191 R ∧ rowT R (tickN M) ∧ oth R (τ 191) ∧ lo_X9_tick_18 N fuel (nI (shN M)) (nI i) τ := by
  intro d
  have hM0 := ok.1
  have hM1 := ok.2.1
  induction d with
  | zero =>
    intro i fuel τ hi hf hr
    obtain ⟨x, rfl⟩ : ∃ x, fuel = x + 1 := ⟨fuel - 1, by omega⟩
    have e : i = M 1 := by omega
    have e1 : τ 191 1 = nI (M 1) := by rw [hr 1 (by decide) (by decide), goR_lo M i (by decide) (by decide)]
    rw [lg_X9_tick_18, lo_X9_tick_18, e1, e, if_pos (nI_le (Nat.le_refl _) (by omega)), if_pos (nI_le (Nat.le_refl _) (by omega))]
    refine ⟨_, rfl, fun j h1 h2 => ?_, fun j hj => ?_, trivial⟩
    · by_cases c : j = 0
      · subst c
        rw [pk_us, hr 0 (by decide) (by decide), goR_lo M i (by decide) (by decide), nI_1, tickN_0]
      · rw [pk_un c, hr j h1 h2]
        unfold goR tickN
        rw [if_neg c, e]
    · rw [pk_un (by omega)]
  | succ d ih =>
    intro i fuel τ hi hf hr
    obtain ⟨x, rfl⟩ : ∃ x, fuel = x + 1 := ⟨fuel - 1, by omega⟩
    have him : i < M 1 := by omega
    have e1 : τ 191 1 = nI (M 1) := by rw [hr 1 (by decide) (by decide), goR_lo M i (by decide) (by decide)]
    have e0 : τ 191 0 = nI (M 0) := by rw [hr 0 (by decide) (by decide), goR_lo M i (by decide) (by decide)]
    have os := okT_S ok (i := i) (by omega)
    have hs : shM (τ 191) i (shipN M i) := fun f hf => by
      rw [hr _ (by omega) (by omega), goR_out M (by omega)]
      rfl
    obtain ⟨ho, hpo⟩ := m_out (by omega) hs os
    rw [lg_X9_tick_18, lo_X9_tick_18, e1, if_neg (nI_ge him (by omega)), if_neg (nI_ge him (by omega)), nI_1]
    by_cases c : shipN M i 4 = 1
    · rw [if_pos (ho.mpr c), if_pos (ho.mpr c)]
      obtain ⟨R, h1, h2, h3, h4⟩ := ih (i + 1) x τ (by omega) (by omega) (fun j h1 h2 => by
        rw [hr j h1 h2, goR_succ]
        by_cases q : 17 + 7 * i ≤ j ∧ j < 24 + 7 * i
        · rw [if_pos q, goR_out M q.1]
          unfold sailN
          rw [if_pos c]
          unfold shipN
          rw [show 17 + 7 * i + (j - 17 - 7 * i) = j by omega]
        · rw [if_neg q])
      exact ⟨R, h1, h2, h3, hpo, h4⟩
    · have c0 : shipN M i 4 = 0 := by have := os.2.2.2.2.1; omega
      rw [if_neg (fun q => c (ho.mp q)), if_neg (fun q => c (ho.mp q)), m_sees (by omega) hs e0 os (shN_lt M) (by omega)]
      obtain ⟨r, h1, h2, h3⟩ := m_steers (e := seeN (shipN M i) (shN M) (M 0)) (by omega) hs e0 os (seeN_lt (shN_lt M)) (by omega) hN
      rw [h1]
      obtain ⟨R, h4, h5, h6, h7⟩ := ih (i + 1) x (tw_sr τ 191 r) (by omega) (by omega) (fun j a b => by
        rw [sr_self, goR_succ]
        by_cases q : 17 + 7 * i ≤ j ∧ j < 24 + 7 * i
        · rw [if_pos q, newN_sail c0]
          have := h2 (j - 17 - 7 * i) (by omega)
          rw [show 17 + 7 * i + (j - 17 - 7 * i) = j by omega] at this
          exact this
        · rw [if_neg q, h3 j (by omega), hr j a b])
      refine ⟨R, by rw [h4, sr_sr], h5, fun j hj => ?_, hpo, m_psees (by omega), m_psteers (by omega) (seeN_lt (shN_lt M)) hN, ?_⟩
      · rw [h6 j hj, sr_self, h3 j (by omega)]
      · exact h7
theorem m_tick {N T : Nat} {M : Nat → Nat} {τ : tw_T} (ok : okT T M) (hT : T < 2 ^ 30) (hN : 9 ≤ N) (h : rowT (τ 191) M) :
    ∃ R, g_X9_tick N τ = tw_sr τ 191 R ∧ rowT R (tickN M) ∧ oth R (τ 191) ∧ p_X9_tick N τ := by
  have okl := okT_L ok
  obtain ⟨l0, l3, l4, l5, l6⟩ := okl
  have hM1 := ok.2.1
  unfold g_X9_tick p_X9_tick
  rw [m_shown h l3 l4 l5 l6 (by omega), m_past h l3 l6 (by omega)]
  obtain ⟨R, h1, h2, h3, h4⟩ := ml_tick (N := N) ok hT (by omega) (M 1) 0 N (tw_sr τ 191 (upd (τ 191) 6 (nI (pastN M)))) (by omega) (by omega) (fun j a b => by
    rw [sr_self]
    by_cases c : j = 6
    · subst c
      rw [pk_us]
      rfl
    · rw [pk_un c, h j a b]
      unfold goR
      rw [if_neg c, if_neg (by omega)])
  refine ⟨R, by rw [sr_sr] at h1; exact h1, h2, fun j hj => ?_, h4⟩
  rw [h3 j hj, sr_self, pk_un (by omega)]
theorem ml_go {N T n : Nat} {M : Nat → Nat} (ok : okT T M) (hT : T + n < 2 ^ 30) (hN : 9 ≤ N) : ∀ d i fuel (τ : tw_T), i + d = n → d < fuel → rowT (τ 191) (tk M i) →
    ∃ R, lg_X9_ticksGo_2 N fuel (nI n) (nI i) τ = tw_sr τ 191 R ∧ rowT R (tk M n) ∧ oth R (τ 191) ∧ lo_X9_ticksGo_2 N fuel (nI n) (nI i) τ := by
  intro d
  induction d with
  | zero =>
    intro i fuel τ hi hf hr
    obtain ⟨x, rfl⟩ : ∃ x, fuel = x + 1 := ⟨fuel - 1, by omega⟩
    have e : i = n := by omega
    subst e
    rw [lg_X9_ticksGo_2, lo_X9_ticksGo_2, if_pos (nI_le (Nat.le_refl _) (by omega)), if_pos (nI_le (Nat.le_refl _) (by omega))]
    exact ⟨τ 191, (sr_id τ 191).symm, hr, fun _ _ => rfl, trivial⟩
  | succ d ih =>
    intro i fuel τ hi hf hr
    obtain ⟨x, rfl⟩ : ∃ x, fuel = x + 1 := ⟨fuel - 1, by omega⟩
    have him : i < n := by omega
    obtain ⟨R, h1, h2, h3, h4⟩ := m_tick (okT_tk ok i) (by omega) hN hr
    rw [lg_X9_ticksGo_2, lo_X9_ticksGo_2, if_neg (nI_ge him (by omega)), if_neg (nI_ge him (by omega)), nI_1, h1]
    obtain ⟨R2, h5, h6, h7, h8⟩ := ih (i + 1) x (tw_sr τ 191 R) (by omega) (by omega) (by rw [sr_self]; exact h2)
    refine ⟨R2, by rw [h5, sr_sr], h6, fun j hj => ?_, h4, h8⟩
    rw [h7 j hj, sr_self, h3 j hj]
theorem m_go {N T n : Nat} {M : Nat → Nat} {τ : tw_T} (ok : okT T M) (hT : T + n < 2 ^ 30) (hN : 9 ≤ N) (hN2 : n < N) (h : rowT (τ 191) M) :
    ∃ R, g_X9_ticksGo N (nI n) τ = tw_sr τ 191 R ∧ rowT R (tk M n) ∧ oth R (τ 191) ∧ p_X9_ticksGo N (nI n) τ := ml_go ok hT hN n 0 N τ (by omega) hN2 h
/-! rows are copied -/
def cpR (A B : Nat → Int32) : Nat → Int32 := fun j => if j < 73 then A j else B j
theorem ml_cp {N ra rb : Nat} (hab : ra ≠ rb) : ∀ d i fuel (τ : tw_T), i + d = 73 → d < fuel → lg_X9_copyRow_2 N ra rb fuel (nI i) τ = tw_sr τ rb (fun j => if i ≤ j ∧ j < 73 then τ ra j else τ rb j) ∧ lo_X9_copyRow_2 N ra rb fuel (nI i) τ := by
  intro d
  induction d with
  | zero =>
    intro i fuel τ hi hf
    obtain ⟨x, rfl⟩ : ∃ x, fuel = x + 1 := ⟨fuel - 1, by omega⟩
    have e : i = 73 := by omega
    subst e
    rw [lg_X9_copyRow_2, lo_X9_copyRow_2, if_pos (by decide), if_pos (by decide)]
    refine ⟨?_, trivial⟩
    have : (fun j => if 73 ≤ j ∧ j < 73 then τ ra j else τ rb j) = τ rb := by
      funext j
      rw [if_neg (by omega)]
    rw [this, sr_id]
  | succ d ih =>
    intro i fuel τ hi hf
    obtain ⟨x, rfl⟩ : ∃ x, fuel = x + 1 := ⟨fuel - 1, by omega⟩
    have him : i < 73 := by omega
    rw [lg_X9_copyRow_2, lo_X9_copyRow_2, show (73 : Int32) = nI 73 from rfl, if_neg (nI_ge him (by decide)), if_neg (nI_ge him (by decide)), nI_1, nI_clamp (by omega)]
    obtain ⟨h1, h2⟩ := ih (i + 1) x (tw_sr τ rb (upd (τ rb) i (τ ra i))) (by omega) (by omega)
    refine ⟨?_, vp_in_nI him (by decide), vp_in_nI him (by decide), h2⟩
    rw [h1, sr_sr, sr_self, sr_ne hab]
    congr 1
    funext j
    by_cases c : j = i
    · subst c
      rw [if_neg (by omega), pk_us, if_pos (by omega)]
    · rw [pk_un c]
      by_cases q : i ≤ j ∧ j < 73
      · rw [if_pos q, if_pos (by omega)]
      · rw [if_neg q, if_neg (by omega)]
theorem m_cp {N ra rb : Nat} {τ : tw_T} (hab : ra ≠ rb) (hN : 73 < N) : g_X9_copyRow N ra rb τ = tw_sr τ rb (cpR (τ ra) (τ rb)) ∧ p_X9_copyRow N ra rb τ := by
  obtain ⟨h1, h2⟩ := ml_cp (N := N) hab 73 0 N τ (by omega) hN
  refine ⟨?_, h2⟩
  show lg_X9_copyRow_2 N ra rb N (nI 0) τ = _
  rw [h1]
  congr 1
  funext j
  unfold cpR
  simp
