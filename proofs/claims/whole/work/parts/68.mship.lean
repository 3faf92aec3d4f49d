/-! ===== a ship of a text, read by the reference ===== -/
def frM (τ τ' : tw_T) : Prop := (∀ q, q ≠ 190 → q ≠ 197 → τ' q = τ q) ∧ ∀ j, j < 7 → τ' 190 j = τ 190 j
theorem frM_8 {a b c : tw_T} (h : fr8 a b) (g : frM b c) : frM a c := ⟨fun q h1 h2 => by rw [g.1 q h1 h2, h.1 q h1], fun j hj => by rw [g.2 j hj, h.2 j hj]⟩
theorem frM_of {a b : tw_T} (h : fr8 a b) : frM a b := ⟨fun q h1 _ => h.1 q h1, h.2⟩
def stM (B : Nat → Nat) (n K m : Nat) (τ τ' : tw_T) (R : Bool × Nat × (Nat → Nat)) : Prop := frM τ τ' ∧ (R.1 = true → mS B n R.2.1 (K + 1) (m + 1) τ' ∧ (∀ j, j < 5 → τ' 197 (5 * K + j) = nI (R.2.2 j)) ∧ ∀ j, j < 5 * K → τ' 197 j = τ 197 j) ∧ (R.1 = false → mW R.2.1 (K + 1) τ')
theorem stM_8 {B : Nat → Nat} {n K m : Nat} {τ τ1 τ' : tw_T} {R : Bool × Nat × (Nat → Nat)} (h : fr8 τ τ1) (g : stM B n K m τ1 τ' R) : stM B n K m τ τ' R := by
  obtain ⟨g1, g2, g3⟩ := g
  refine ⟨frM_8 h g1, fun q => ?_, g3⟩
  obtain ⟨a, b, c⟩ := g2 q
  exact ⟨a, b, fun j hj => by rw [c j hj, h.1 197 (by decide)]⟩
theorem curM_sr {B : Nat → Nat} {n b : Nat} {τ : tw_T} {r r' : Nat → Int32} (h : curM B n b τ) (hr : ∀ j, j < 11 → r' j = τ 190 j) : curM B n b (tw_sr (tw_sr τ 197 r) 190 r') := by
  obtain ⟨⟨h1, h2⟩, k7, k8, k9, k10⟩ := h
  refine ⟨⟨by rw [sr_self, hr 6 (by decide)]; exact h1, fun j hj => by rw [sr_ne (by decide), sr_ne (by decide)]; exact h2 j hj⟩, ?_⟩
  unfold tkM
  rw [sr_self, hr 7 (by decide), hr 8 (by decide), hr 9 (by decide), hr 10 (by decide)]
  exact ⟨k7, k8, k9, k10⟩
def shFin (x1 x2 x3 x4 x5 : Int32) (τ : tw_T) : tw_T := tw_sr (g_X9_addItem x1 x2 x3 x4 x5 τ) 190 (upd ((g_X9_addItem x1 x2 x3 x4 x5 τ) 190) 15 (((g_X9_addItem x1 x2 x3 x4 x5 τ) 190 15) + 1))
theorem sh_fin {B s : Nat → Nat} {n b K m : Nat} {x1 x2 x3 x4 x5 : Int32} {τ : tw_T} (hK : K < 120) (h : mS B n b K m τ) (e1 : x1 = nI (s 0)) (e2 : x2 = nI (s 1)) (e3 : x3 = nI (s 2)) (e4 : x4 = nI (s 3)) (e5 : x5 = nI (s 4)) : stM B n K m τ (shFin x1 x2 x3 x4 x5 τ) (true, b, s) ∧ p_X9_addItem x1 x2 x3 x4 x5 τ := by
  obtain ⟨hc, h11, h14, h15⟩ := h
  obtain ⟨r, a1, ⟨a2, a3, a4, a5, a6⟩, a7, a8⟩ := m_add (x1 := x1) (x2 := x2) (x3 := x3) (x4 := x4) (x5 := x5) hK h14
  have eF : shFin x1 x2 x3 x4 x5 τ = tw_sr (tw_sr τ 197 r) 190 (upd (upd (τ 190) 14 (nI (K + 1))) 15 (nI (m + 1))) := by
    unfold shFin
    rw [a1, sr_sr, sr_self, pk_un (show 15 ≠ 14 by decide), h15, nI_1]
  rw [eF]
  refine ⟨⟨⟨fun q h1 h2 => by rw [sr_ne h1, sr_ne h2], fun j hj => by rw [sr_self, pk_un (by omega), pk_un (by omega)]⟩, fun _ => ⟨⟨curM_sr hc (fun j hj => by rw [pk_un (by omega), pk_un (by omega)]), ?_, ?_, ?_⟩, fun j hj => ?_, fun j hj => ?_⟩, fun q => absurd (show true = false from q) (by decide)⟩, a8⟩
  · rw [sr_self, pk_un (by decide), pk_un (by decide)]; exact h11
  · rw [sr_self, pk_un (by decide), pk_us]
  · rw [sr_self, pk_us]
  · rw [sr_ne (by decide), sr_self]
    show r (5 * K + j) = nI (s j)
    rcases (show j = 0 ∨ j = 1 ∨ j = 2 ∨ j = 3 ∨ j = 4 by omega) with rfl | rfl | rfl | rfl | rfl
    · exact a2.trans e1
    · exact a3.trans e2
    · exact a4.trans e3
    · exact a5.trans e4
    · exact a6.trans e5
  · rw [sr_ne (by decide), sr_self]; exact a7 j hj
theorem sh_finW {b K : Nat} {x1 x2 x3 x4 x5 : Int32} {τ : tw_T} (hK : K < 120) (h : mW b K τ) : (frM τ (shFin x1 x2 x3 x4 x5 τ) ∧ mW b (K + 1) (shFin x1 x2 x3 x4 x5 τ)) ∧ p_X9_addItem x1 x2 x3 x4 x5 τ := by
  obtain ⟨h11, h7, h14⟩ := h
  obtain ⟨r, a1, a2, a7, a8⟩ := m_add (x1 := x1) (x2 := x2) (x3 := x3) (x4 := x4) (x5 := x5) hK h14
  have eF : shFin x1 x2 x3 x4 x5 τ = tw_sr (tw_sr τ 197 r) 190 (upd (upd (τ 190) 14 (nI (K + 1))) 15 (τ 190 15 + 1)) := by
    unfold shFin
    rw [a1, sr_sr, sr_self, pk_un (show 15 ≠ 14 by decide)]
  rw [eF]
  refine ⟨⟨⟨fun q h1 h2 => by rw [sr_ne h1, sr_ne h2], fun j hj => by rw [sr_self, pk_un (by omega), pk_un (by omega)]⟩, ?_, ?_, ?_⟩, a8⟩
  · rw [sr_self, pk_un (by decide), pk_un (by decide)]; exact h11
  · rw [sr_self, pk_un (by decide), pk_un (by decide)]; exact h7
  · rw [sr_self, pk_un (by decide), pk_us]
/-! wrong already: nothing more is read -/
theorem w_79 {N b K : Nat} {x1 x2 x3 x4 : Int32} {τ : tw_T} (hN : 0 < N) (hK : K < 120) (h : mW b K τ) : (frM τ (lg_X9_readShip_79 N N x1 x2 x3 x4 τ) ∧ mW b (K + 1) (lg_X9_readShip_79 N N x1 x2 x3 x4 τ)) ∧ lo_X9_readShip_79 N N x1 x2 x3 x4 τ := by
  obtain ⟨P, rfl⟩ : ∃ P, N = P + 1 := ⟨N - 1, by omega⟩
  obtain ⟨t1, t2, t3⟩ := m_takesW (N := P + 1) (w := 24) h
  have z : (0 : Int32) = 0 := rfl
  obtain ⟨a1, a2⟩ := sh_finW (x1 := x1) (x2 := x2) (x3 := x3) (x4 := x4) (x5 := 0) hK h
  rw [lg_X9_readShip_79, lo_X9_readShip_79, t1, t2, if_pos z, if_pos z]
  exact ⟨a1, t3, a2, trivial⟩
theorem w_57 {N b K : Nat} {x1 x2 x3 : Int32} {τ : tw_T} (hN : 0 < N) (hK : K < 120) (h : mW b K τ) : (frM τ (lg_X9_readShip_57 N N x1 x2 x3 τ) ∧ mW b (K + 1) (lg_X9_readShip_57 N N x1 x2 x3 τ)) ∧ lo_X9_readShip_57 N N x1 x2 x3 τ := by
  obtain ⟨P, rfl⟩ : ∃ P, N = P + 1 := ⟨N - 1, by omega⟩
  obtain ⟨t1, t2, t3⟩ := m_takesW (N := P + 1) (w := 23) h
  have z : (0 : Int32) = 0 := rfl
  obtain ⟨a1, a2⟩ := w_79 (N := P + 1) (x1 := x1) (x2 := x2) (x3 := x3) (x4 := 1) hN hK h
  rw [lg_X9_readShip_57, lo_X9_readShip_57, t1, t2, if_pos z, if_pos z]
  exact ⟨a1, t3, a2⟩
theorem w_41 {N b K : Nat} {x1 x2 : Int32} {τ : tw_T} (hN : 0 < N) (hK : K < 120) (h : mW b K τ) : (frM τ (lg_X9_readShip_41 N N x1 x2 τ) ∧ mW b (K + 1) (lg_X9_readShip_41 N N x1 x2 τ)) ∧ lo_X9_readShip_41 N N x1 x2 τ := by
  obtain ⟨P, rfl⟩ : ∃ P, N = P + 1 := ⟨N - 1, by omega⟩
  obtain ⟨t1, t2, t3⟩ := m_takesW (N := P + 1) (w := 22) h
  have z : (0 : Int32) = 0 := rfl
  obtain ⟨a1, a2⟩ := w_57 (N := P + 1) (x1 := x1) (x2 := x2) (x3 := 1) hN hK h
  rw [lg_X9_readShip_41, lo_X9_readShip_41, t1, t2, if_pos z, if_pos z]
  exact ⟨a1, t3, a2⟩
theorem w_18 {N b K : Nat} {x1 : Int32} {τ : tw_T} (hN : 0 < N) (hK : K < 120) (h : mW b K τ) : (frM τ (lg_X9_readShip_18 N N x1 τ) ∧ mW b (K + 1) (lg_X9_readShip_18 N N x1 τ)) ∧ lo_X9_readShip_18 N N x1 τ := by
  obtain ⟨P, rfl⟩ : ∃ P, N = P + 1 := ⟨N - 1, by omega⟩
  obtain ⟨t1, t2, t3⟩ := m_takesW (N := P + 1) (w := 21) h
  have z : (0 : Int32) = 0 := rfl
  obtain ⟨a1, a2⟩ := w_41 (N := P + 1) (x1 := x1) (x2 := 11) hN hK h
  rw [lg_X9_readShip_18, lo_X9_readShip_18, t1, t2, if_pos z, if_pos z]
  exact ⟨a1, t3, a2⟩
theorem stM_w {B s : Nat → Nat} {n b K m : Nat} {τ τ' : tw_T} (h : frM τ τ' ∧ mW b (K + 1) τ') : stM B n K m τ τ' (false, b, s) :=
  ⟨h.1, fun q => absurd (show false = true from q) (by decide), fun _ => h.2⟩
theorem r_79 {N n b K m : Nat} {B s : Nat → Nat} {x1 x2 x3 x4 : Int32} {τ : tw_T} (hn : n ≤ 120) (hB : ∀ j, B j < 256) (hN : 130 ≤ N) (hbn : b ≤ n) (hK : K < 120) (h : mS B n b K m τ) (e1 : x1 = nI (s 0)) (e2 : x2 = nI (s 1)) (e3 : x3 = nI (s 2)) (e4 : x4 = nI (s 3)) (h4 : s 4 = 0) : stM B n K m τ (lg_X9_readShip_79 N N x1 x2 x3 x4 τ) (rPt B n b s) ∧ lo_X9_readShip_79 N N x1 x2 x3 x4 τ := by
  obtain ⟨P, rfl⟩ : ∃ P, N = P + 1 := ⟨N - 1, by omega⟩
  obtain ⟨t1, t2, t3, t4⟩ := m_takes (N := P + 1) (w := 10) hn hB hN hbn (by decide) h
  have t1' : f_X9_takesWord (P + 1) 24 τ = _ := t1
  unfold rPt
  rw [lg_X9_readShip_79, lo_X9_readShip_79, t1']
  by_cases c : wdB B n b (wL 10) = true
  · rw [if_pos c] at t3
    rw [if_neg (bo_t c), if_neg (bo_t c), if_pos c]
    obtain ⟨a1, a2⟩ := sh_fin (s := mU s 4 1) (x1 := x1) (x2 := x2) (x3 := x3) (x4 := x4) (x5 := 1) hK t3 (e1.trans (by rw [mU_ne (by decide)])) (e2.trans (by rw [mU_ne (by decide)])) (e3.trans (by rw [mU_ne (by decide)])) (e4.trans (by rw [mU_ne (by decide)])) (by rw [mU_self]; rfl)
    exact ⟨stM_8 t4 a1, t2, a2, trivial⟩
  · rw [if_neg c] at t3
    rw [if_pos (bo_f c), if_pos (bo_f c), if_neg c]
    obtain ⟨a1, a2⟩ := sh_fin (s := s) (x1 := x1) (x2 := x2) (x3 := x3) (x4 := x4) (x5 := 0) hK t3 e1 e2 e3 e4 (by rw [h4]; rfl)
    exact ⟨stM_8 t4 a1, t2, a2, trivial⟩
theorem r_57 {N n b K m : Nat} {B s : Nat → Nat} {x1 x2 x3 : Int32} {τ : tw_T} (hn : n ≤ 120) (hB : ∀ j, B j < 256) (hN : 130 ≤ N) (hbn : b ≤ n) (hK : K < 120) (h : mS B n b K m τ) (e1 : x1 = nI (s 0)) (e2 : x2 = nI (s 1)) (e3 : x3 = nI (s 2)) (h3 : s 3 = 1) (h4 : s 4 = 0) : stM B n K m τ (lg_X9_readShip_57 N N x1 x2 x3 τ) (rSp B n b s) ∧ lo_X9_readShip_57 N N x1 x2 x3 τ := by
  obtain ⟨P, rfl⟩ : ∃ P, N = P + 1 := ⟨N - 1, by omega⟩
  obtain ⟨t1, t2, t3, t4⟩ := m_takes (N := P + 1) (w := 9) hn hB hN hbn (by decide) h
  have t1' : f_X9_takesWord (P + 1) 23 τ = _ := t1
  have hnx := (nx_le (B := B) hbn).2
  unfold rSp
  rw [lg_X9_readShip_57, lo_X9_readShip_57, t1']
  by_cases c : wdB B n b (wL 9) = true
  · rw [if_pos c] at t3
    rw [if_neg (bo_t c), if_neg (bo_t c), if_pos c]
    obtain ⟨q1, q2, q3, q4⟩ := m_numb (N := P + 1) (hi := 5) hn hB hN hbn (by decide) t3
    by_cases d : okN B n b (bdS 3) = true
    · rw [if_pos d]
      obtain ⟨v1, v2⟩ := q3 d
      have v1' : f_X9_number (P + 1) 0 5 (g_X9_takesWord (P + 1) 23 τ) = _ := v1
      rw [v1']
      obtain ⟨a1, a2⟩ := r_79 (s := mU s 3 (vA B n (nx B n b))) (x1 := x1) (x2 := x2) (x3 := x3) (x4 := nI (vA B n (nx B n b))) hn hB hN (nx_le hnx).2 hK v2 (e1.trans (by rw [mU_ne (by decide)])) (e2.trans (by rw [mU_ne (by decide)])) (e3.trans (by rw [mU_ne (by decide)])) (by rw [mU_self]) (by rw [mU_ne (by decide)]; exact h4)
      exact ⟨stM_8 t4 (stM_8 q2 a1), t2, q1, a2⟩
    · rw [if_neg d]
      have d' : okN B n b (bdS 3) = false := by simpa using d
      have v := q4 d'
      obtain ⟨a1, a2⟩ := w_79 (N := P + 1) (x1 := x1) (x2 := x2) (x3 := x3) (x4 := f_X9_number (P + 1) 0 5 (g_X9_takesWord (P + 1) 23 τ)) (by omega) hK v
      exact ⟨stM_8 t4 (stM_8 q2 (stM_w a1)), t2, q1, a2⟩
  · rw [if_neg c] at t3
    rw [if_pos (bo_f c), if_pos (bo_f c), if_neg c]
    obtain ⟨a1, a2⟩ := r_79 (s := s) (x1 := x1) (x2 := x2) (x3 := x3) (x4 := 1) hn hB hN hbn hK t3 e1 e2 e3 (by rw [h3]; rfl) h4
    exact ⟨stM_8 t4 a1, t2, a2⟩
theorem r_41 {N n b K m : Nat} {B s : Nat → Nat} {x1 x2 : Int32} {τ : tw_T} (hn : n ≤ 120) (hB : ∀ j, B j < 256) (hN : 130 ≤ N) (hbn : b ≤ n) (hK : K < 120) (h : mS B n b K m τ) (e1 : x1 = nI (s 0)) (e2 : x2 = nI (s 1)) (h2 : s 2 = 1) (h3 : s 3 = 1) (h4 : s 4 = 0) : stM B n K m τ (lg_X9_readShip_41 N N x1 x2 τ) (rBk B n b s) ∧ lo_X9_readShip_41 N N x1 x2 τ := by
  obtain ⟨P, rfl⟩ : ∃ P, N = P + 1 := ⟨N - 1, by omega⟩
  obtain ⟨t1, t2, t3, t4⟩ := m_takes (N := P + 1) (w := 8) hn hB hN hbn (by decide) h
  have t1' : f_X9_takesWord (P + 1) 22 τ = _ := t1
  have hnx := (nx_le (B := B) hbn).2
  unfold rBk
  rw [lg_X9_readShip_41, lo_X9_readShip_41, t1']
  by_cases c : wdB B n b (wL 8) = true
  · rw [if_pos c] at t3
    rw [if_neg (bo_t c), if_neg (bo_t c), if_pos c]
    obtain ⟨a1, a2⟩ := r_57 (s := mU s 2 0) (x1 := x1) (x2 := x2) (x3 := 0) hn hB hN hnx hK t3 (e1.trans (by rw [mU_ne (by decide)])) (e2.trans (by rw [mU_ne (by decide)])) (by rw [mU_self]; rfl) (by rw [mU_ne (by decide)]; exact h3) (by rw [mU_ne (by decide)]; exact h4)
    exact ⟨stM_8 t4 a1, t2, a2⟩
  · rw [if_neg c] at t3
    rw [if_pos (bo_f c), if_pos (bo_f c), if_neg c]
    obtain ⟨a1, a2⟩ := r_57 (s := s) (x1 := x1) (x2 := x2) (x3 := 1) hn hB hN hbn hK t3 e1 e2 (by rw [h2]; rfl) h3 h4
    exact ⟨stM_8 t4 a1, t2, a2⟩
theorem r_18 {N n b K m : Nat} {B s : Nat → Nat} {x1 : Int32} {τ : tw_T} (hn : n ≤ 120) (hB : ∀ j, B j < 256) (hN : 130 ≤ N) (hbn : b ≤ n) (hK : K < 120) (h : mS B n b K m τ) (e1 : x1 = nI (s 0)) (h1 : s 1 = 11) (h2 : s 2 = 1) (h3 : s 3 = 1) (h4 : s 4 = 0) : stM B n K m τ (lg_X9_readShip_18 N N x1 τ) (rAt B n b s) ∧ lo_X9_readShip_18 N N x1 τ := by
  obtain ⟨P, rfl⟩ : ∃ P, N = P + 1 := ⟨N - 1, by omega⟩
  obtain ⟨t1, t2, t3, t4⟩ := m_takes (N := P + 1) (w := 7) hn hB hN hbn (by decide) h
  have t1' : f_X9_takesWord (P + 1) 21 τ = _ := t1
  have hnx := (nx_le (B := B) hbn).2
  unfold rAt
  rw [lg_X9_readShip_18, lo_X9_readShip_18, t1']
  by_cases c : wdB B n b (wL 7) = true
  · rw [if_pos c] at t3
    rw [if_neg (bo_t c), if_neg (bo_t c), if_pos c]
    obtain ⟨q1, q2, q3, q4⟩ := m_numb (N := P + 1) (hi := 23) hn hB hN hbn (by decide) t3
    by_cases d : okN B n b (bdS 1) = true
    · rw [if_pos d]
      obtain ⟨v1, v2⟩ := q3 d
      have v1' : f_X9_number (P + 1) 0 23 (g_X9_takesWord (P + 1) 21 τ) = _ := v1
      rw [v1']
      obtain ⟨a1, a2⟩ := r_41 (s := mU s 1 (vA B n (nx B n b))) (x1 := x1) (x2 := nI (vA B n (nx B n b))) hn hB hN (nx_le hnx).2 hK v2 (e1.trans (by rw [mU_ne (by decide)])) (by rw [mU_self]) (by rw [mU_ne (by decide)]; exact h2) (by rw [mU_ne (by decide)]; exact h3) (by rw [mU_ne (by decide)]; exact h4)
      exact ⟨stM_8 t4 (stM_8 q2 a1), t2, q1, a2⟩
    · rw [if_neg d]
      have d' : okN B n b (bdS 1) = false := by simpa using d
      have v := q4 d'
      obtain ⟨a1, a2⟩ := w_41 (N := P + 1) (x1 := x1) (x2 := f_X9_number (P + 1) 0 23 (g_X9_takesWord (P + 1) 21 τ)) (by omega) hK v
      exact ⟨stM_8 t4 (stM_8 q2 (stM_w a1)), t2, q1, a2⟩
  · rw [if_neg c] at t3
    rw [if_pos (bo_f c), if_pos (bo_f c), if_neg c]
    obtain ⟨a1, a2⟩ := r_41 (s := s) (x1 := x1) (x2 := 11) hn hB hN hbn hK t3 e1 (by rw [h1]; rfl) h2 h3 h4
    exact ⟨stM_8 t4 a1, t2, a2⟩
