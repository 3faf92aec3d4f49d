/-! ===== tokens: the reference ===== -/
def tbM (n : Nat) (B : Nat → Nat) (τ : tw_T) : Prop := τ 190 6 = nI n ∧ ∀ j, j < n → τ 195 j = nI (B j)
theorem wi_1 : ∀ x, x < 256 → ((if nI x < (97 : Int32) then (0 : Int32) else (if (122 : Int32) < nI x then 0 else 1)) = 0 ↔ ¬ typ x = 1) := by decide +kernel
theorem wi_2 : ∀ x, x < 256 → ((if nI x < (48 : Int32) then (0 : Int32) else (if (57 : Int32) < nI x then 0 else 1)) = 0 ↔ ¬ typ x = 2) := by decide +kernel
theorem m_wi1 {x : Nat} (h : x < 256) (τ : tw_T) : f_X9_within (nI x) 97 122 τ = 0 ↔ ¬ typ x = 1 := wi_1 x h
theorem m_wi2 {x : Nat} (h : x < 256) (τ : tw_T) : f_X9_within (nI x) 48 57 τ = 0 ↔ ¬ typ x = 2 := wi_2 x h
theorem m_byte {n k : Nat} {B : Nat → Nat} {τ : tw_T} (hn : n ≤ 120) (hk : k ≤ 120) (h : tbM n B τ) : f_X9_byteAt (nI k) τ = (if k < n then nI (B k) else -1) ∧ p_X9_byteAt (nI k) τ := by
  unfold f_X9_byteAt p_X9_byteAt
  rw [h.1]
  by_cases c : k < n
  · have hgt : ¬ nI n ≤ nI k := nI_ge c (by omega)
    rw [if_neg hgt, if_neg hgt, if_pos c, nI_clamp (by omega)]
    exact ⟨h.2 k c, vp_in_nI (by omega) (by decide), trivial⟩
  · have hle : nI n ≤ nI k := nI_le (by omega) (by omega)
    rw [if_pos hle, if_pos hle, if_neg c]
    exact ⟨rfl, trivial⟩
theorem tbM_sr {n : Nat} {B : Nat → Nat} {τ : tw_T} {r : Nat → Int32} (h : tbM n B τ) (hr : r 6 = τ 190 6) : tbM n B (tw_sr τ 190 r) := ⟨by rw [sr_self, hr]; exact h.1, fun j hj => by rw [sr_ne (by decide)]; exact h.2 j hj⟩
theorem ml_let {N n : Nat} {x1 : Int32} {B : Nat → Nat} (hn : n ≤ 120) (hB : ∀ j, B j < 256) : ∀ d k fuel (τ : tw_T), k + d = n → d < fuel → tbM n B τ → τ 190 8 = nI k →
    lg_X9_token_84 N fuel x1 τ = tw_sr τ 190 (upd (τ 190) 8 (nI (sk (fun j => decide (typ (B j) = 1)) d k))) ∧ lo_X9_token_84 N fuel x1 τ := by
  intro d
  induction d with
  | zero =>
    intro k fuel τ hk hf hb h8
    obtain ⟨u, rfl⟩ : ∃ u, fuel = u + 1 := ⟨fuel - 1, by omega⟩
    obtain ⟨b1, b2⟩ := m_byte (k := k) hn (by omega) hb
    have hz : f_X9_within (-1) 97 122 τ = 0 := by unfold f_X9_within; decide
    rw [lg_X9_token_84, lo_X9_token_84, h8, b1, if_neg (show ¬ k < n by omega), if_pos hz, if_pos hz]
    have e : upd (τ 190) 8 (nI (sk (fun j => decide (typ (B j) = 1)) 0 k)) = τ 190 := upd_eq h8
    rw [e, sr_id]
    exact ⟨rfl, b2, trivial⟩
  | succ d ih =>
    intro k fuel τ hk hf hb h8
    obtain ⟨u, rfl⟩ : ∃ u, fuel = u + 1 := ⟨fuel - 1, by omega⟩
    obtain ⟨b1, b2⟩ := m_byte (k := k) hn (by omega) hb
    have hw := m_wi1 (hB k) τ
    rw [lg_X9_token_84, lo_X9_token_84, h8, b1, if_pos (show k < n by omega), nI_1]
    simp only [hw]
    by_cases c : typ (B k) = 1
    · have hn' : ¬ ¬ typ (B k) = 1 := fun h => h c
      rw [if_neg hn', if_neg hn', sk_yes (decide_eq_true c)]
      obtain ⟨a1, a2⟩ := ih (k + 1) u (tw_sr τ 190 (upd (τ 190) 8 (nI (k + 1)))) (by omega) (by omega) (tbM_sr hb (by rw [pk_un (by decide)])) (by rw [sr_self, pk_us])
      rw [sr_sr, sr_self, upd_twice] at a1
      exact ⟨a1, b2, a2⟩
    · rw [if_pos c, if_pos c, sk_no (decide_eq_false c)]
      have e : upd (τ 190) 8 (nI k) = τ 190 := upd_eq h8
      rw [e, sr_id]
      exact ⟨rfl, b2, trivial⟩
theorem vS_m {a x : Nat} (ha : a ≤ 10000) (hx : 48 ≤ x) (hx2 : x < 256) : (if 10 * nI a + nI x - 48 < (10000 : Int32) then 10 * nI a + nI x - 48 else (10000 : Int32)) = nI (vS a x) := by
  have e1 : 10 * nI a = nI (a * 10) := by rw [Nat.mul_comm]; exact pk_mul 10 a
  have e2 : (48 : Int32) = nI 48 := rfl
  have e3 : (10000 : Int32) = nI 10000 := rfl
  rw [e1, nI_add, e2, pk_sub (by omega), e3]
  simp only [nI_ltI (show a * 10 + x - 48 < 2 ^ 31 by omega) (show 10000 < 2 ^ 31 by decide), q_ite]
  rfl
theorem ml_num {N n : Nat} {x1 : Int32} {B : Nat → Nat} (hn : n ≤ 120) (hB : ∀ j, B j < 256) : ∀ d k fuel a (τ : tw_T), k + d = n → d < fuel → a ≤ 10000 → tbM n B τ → τ 190 8 = nI k → τ 190 10 = nI a →
    (∃ r, lg_X9_token_131 N fuel x1 τ = tw_sr τ 190 r ∧ r 8 = nI (sk (fun j => decide (typ (B j) = 2)) d k) ∧ r 10 = nI (vF B (sk (fun j => decide (typ (B j) = 2)) d k - k) k a) ∧ ∀ j, j ≠ 8 → j ≠ 10 → r j = τ 190 j) ∧ lo_X9_token_131 N fuel x1 τ := by
  intro d
  induction d with
  | zero =>
    intro k fuel a τ hk hf ha hb h8 h10
    obtain ⟨u, rfl⟩ : ∃ u, fuel = u + 1 := ⟨fuel - 1, by omega⟩
    obtain ⟨b1, b2⟩ := m_byte (k := k) hn (by omega) hb
    have hz : f_X9_within (-1) 48 57 τ = 0 := by unfold f_X9_within; decide
    rw [lg_X9_token_131, lo_X9_token_131, h8, b1, if_neg (show ¬ k < n by omega), if_pos hz, if_pos hz]
    refine ⟨⟨τ 190, (sr_id τ 190).symm, h8, ?_, fun _ _ _ => rfl⟩, b2, trivial⟩
    show τ 190 10 = nI (vF B (k - k) k a)
    rw [Nat.sub_self]
    exact h10
  | succ d ih =>
    intro k fuel a τ hk hf ha hb h8 h10
    obtain ⟨u, rfl⟩ : ∃ u, fuel = u + 1 := ⟨fuel - 1, by omega⟩
    obtain ⟨b1, b2⟩ := m_byte (k := k) hn (by omega) hb
    have hw := m_wi2 (hB k) τ
    rw [lg_X9_token_131, lo_X9_token_131, h8, h10, b1, if_pos (show k < n by omega)]
    simp only [hw]
    by_cases c : typ (B k) = 2
    · have hn' : ¬ ¬ typ (B k) = 2 := fun h => h c
      rw [if_neg hn', if_neg hn', sk_yes (decide_eq_true c), vS_m ha (typ_2 c).1 (hB k), sr_sr, sr_self, pk_un (show 8 ≠ 10 by decide), h8, nI_1]
      obtain ⟨⟨r, a1, a2, a3, a4⟩, a5⟩ := ih (k + 1) u (vS a (B k)) (tw_sr τ 190 (upd (upd (τ 190) 10 (nI (vS a (B k)))) 8 (nI (k + 1)))) (by omega) (by omega) (vS_le _ _) (tbM_sr hb (by rw [pk_un (by decide), pk_un (by decide)])) (by rw [sr_self, pk_us]) (by rw [sr_self, pk_un (by decide), pk_us])
      rw [sr_sr] at a1
      refine ⟨⟨r, a1, a2, ?_, fun j p q => ?_⟩, b2, b2, a5⟩
      · have hle := (sk_le (fun j => decide (typ (B j) = 2)) d (k + 1)).1
        rw [a3]
        have e : sk (fun j => decide (typ (B j) = 2)) d (k + 1) - k = (sk (fun j => decide (typ (B j) = 2)) d (k + 1) - (k + 1)) + 1 := by omega
        rw [e]
        rfl
      · rw [a4 j p q, sr_self, pk_un p, pk_un q]
    · rw [if_pos c, if_pos c, sk_no (decide_eq_false c)]
      refine ⟨⟨τ 190, (sr_id τ 190).symm, h8, ?_, fun _ _ _ => rfl⟩, b2, trivial⟩
      rw [Nat.sub_self]
      exact h10
def tkM (B : Nat → Nat) (n b : Nat) (r : Nat → Int32) : Prop := r 7 = nI b ∧ r 8 = nI (eA B n b) ∧ r 9 = nI (tA B n b) ∧ r 10 = nI (if tA B n b = 2 then vA B n b else 0)
def mA (τ : tw_T) : tw_T := tw_sr τ 190 (upd (τ 190) 8 (τ 190 7))
def mB (τ : tw_T) : tw_T := tw_sr (mA τ) 190 (upd ((mA τ) 190) 10 0)
def mR (N : Nat) (τ : tw_T) : tw_T := if (0 : Int32) ≤ (f_X9_byteAt (τ 190 7) τ) then (if (f_X9_within (f_X9_byteAt (τ 190 7) τ) 97 122 (mB τ)) = (0 : Int32) then (if (f_X9_within (f_X9_byteAt (τ 190 7) τ) 48 57 (mB τ)) = (0 : Int32) then (tw_sr (tw_sr (mB τ) 190 (upd ((mB τ) 190) 9 3)) 190 (upd ((tw_sr (mB τ) 190 (upd ((mB τ) 190) 9 3)) 190) 8 (((tw_sr (mB τ) 190 (upd ((mB τ) 190) 9 3)) 190 8) + 1))) else (lg_X9_token_131 N N (f_X9_byteAt (τ 190 7) τ) (tw_sr (mB τ) 190 (upd ((mB τ) 190) 9 2)))) else (lg_X9_token_84 N N (f_X9_byteAt (τ 190 7) τ) (tw_sr (mB τ) 190 (upd ((mB τ) 190) 9 1)))) else (tw_sr (mB τ) 190 (upd ((mB τ) 190) 9 0))
def mQ (N : Nat) (τ : tw_T) : Prop := p_X9_byteAt (τ 190 7) τ ∧ (if (0 : Int32) ≤ (f_X9_byteAt (τ 190 7) τ) then (if (f_X9_within (f_X9_byteAt (τ 190 7) τ) 97 122 (mB τ)) = (0 : Int32) then (if (f_X9_within (f_X9_byteAt (τ 190 7) τ) 48 57 (mB τ)) = (0 : Int32) then True else (lo_X9_token_131 N N (f_X9_byteAt (τ 190 7) τ) (tw_sr (mB τ) 190 (upd ((mB τ) 190) 9 2)))) else (lo_X9_token_84 N N (f_X9_byteAt (τ 190 7) τ) (tw_sr (mB τ) 190 (upd ((mB τ) 190) 9 1)))) else True)
theorem t8_g (N n : Nat) (τ : tw_T) : lg_X9_token_8 N (n + 1) τ = if (f_X9_byteAt (τ 190 7) τ) = (32 : Int32) then (lg_X9_token_8 N n (tw_sr τ 190 (upd (τ 190) 7 ((τ 190 7) + 1)))) else mR N τ := rfl
theorem t8_p (N n : Nat) (τ : tw_T) : lo_X9_token_8 N (n + 1) τ = (p_X9_byteAt (τ 190 7) τ ∧ (if (f_X9_byteAt (τ 190 7) τ) = (32 : Int32) then (lo_X9_token_8 N n (tw_sr τ 190 (upd (τ 190) 7 ((τ 190 7) + 1)))) else mQ N τ)) := rfl
theorem m_mR {N n b : Nat} {B : Nat → Nat} {τ : tw_T} (hn : n ≤ 120) (hB : ∀ j, B j < 256) (hN : 130 ≤ N) (hb : tbM n B τ) (hbn : b ≤ n) (h7 : τ 190 7 = nI b) : (∃ r, mR N τ = tw_sr τ 190 r ∧ tkM B n b r ∧ ∀ j, (j < 7 ∨ 10 < j) → r j = τ 190 j) ∧ mQ N τ := by
  obtain ⟨b1, b2⟩ := m_byte (k := b) hn (by omega) hb
  have b190 : (mB τ) 190 = upd (upd (τ 190) 8 (nI b)) 10 0 := by unfold mB mA; rw [sr_self, sr_self, h7]
  have hsr : ∀ r, tw_sr (mB τ) 190 r = tw_sr τ 190 r := fun r => by unfold mB mA; rw [sr_sr, sr_sr]
  unfold mR mQ
  rw [h7, b1, b190]
  simp only [hsr]
  by_cases c : b < n
  · have p0 : (0 : Int32) ≤ nI (B b) := nI_pos' (by have := hB b; omega)
    have htA : tA B n b = typ (B b) := if_neg (by omega)
    simp only [c, if_true, p0, m_wi1 (hB b), m_wi2 (hB b)]
    have hcs := typ_le (B b)
    obtain ⟨d, hd⟩ : ∃ d, n - b = d + 1 := ⟨n - b - 1, by omega⟩
    by_cases d1 : typ (B b) = 1
    · obtain ⟨g1, g2⟩ := ml_let (N := N) (x1 := nI (B b)) hn hB (n - b) b N (tw_sr τ 190 (upd (upd (upd (τ 190) 8 (nI b)) 10 0) 9 1)) (by omega) (by omega) (tbM_sr hb (by rw [pk_un (by decide), pk_un (by decide), pk_un (by decide)])) (by rw [sr_self, pk_un (by decide), pk_un (by decide), pk_us])
      have hn1 : ¬ ¬ typ (B b) = 1 := fun h => h d1
      rw [if_neg hn1, if_neg hn1, g1, sr_sr, sr_self]
      have heA : eA B n b = sk (fun j => decide (typ (B j) = 1)) (n - b) b := by
        unfold eA
        rw [if_neg (by omega), d1, if_neg (by omega)]
      refine ⟨⟨_, rfl, ⟨?_, ?_, ?_, ?_⟩, fun j hj => ?_⟩, b2, g2⟩
      · rw [pk_un (by decide), pk_un (by decide), pk_un (by decide), pk_un (by decide)]; exact h7
      · rw [pk_us, heA]
      · rw [pk_un (by decide), pk_us, htA, d1]; rfl
      · rw [pk_un (by decide), pk_un (by decide), pk_us, htA, if_neg (by omega)]; rfl
      · rw [pk_un (by omega), pk_un (by omega), pk_un (by omega), pk_un (by omega)]
    · rw [if_pos d1, if_pos d1]
      by_cases d2 : typ (B b) = 2
      · obtain ⟨⟨r, g1, g2, g3, g4⟩, g5⟩ := ml_num (N := N) (x1 := nI (B b)) hn hB (n - b) b N 0 (tw_sr τ 190 (upd (upd (upd (τ 190) 8 (nI b)) 10 0) 9 2)) (by omega) (by omega) (by decide) (tbM_sr hb (by rw [pk_un (by decide), pk_un (by decide), pk_un (by decide)])) (by rw [sr_self, pk_un (by decide), pk_un (by decide), pk_us]) (by rw [sr_self, pk_un (by decide), pk_us]; rfl)
        have hn2 : ¬ ¬ typ (B b) = 2 := fun h => h d2
        rw [sr_sr] at g1
        rw [sr_self] at g4
        rw [if_neg hn2, if_neg hn2, g1]
        have heA : eA B n b = sk (fun j => decide (typ (B j) = 2)) (n - b) b := by
          unfold eA
          rw [if_neg (by omega), d2, if_neg (by omega)]
        refine ⟨⟨r, rfl, ⟨?_, ?_, ?_, ?_⟩, fun j hj => ?_⟩, b2, g5⟩
        · rw [g4 7 (by decide) (by decide), pk_un (by decide), pk_un (by decide), pk_un (by decide)]; exact h7
        · rw [g2, heA]
        · rw [g4 9 (by decide) (by decide), pk_us, htA, d2]; rfl
        · rw [g3, htA, if_pos d2]
          unfold vA
          rw [heA]
        · rw [g4 j (by omega) (by omega), pk_un (by omega), pk_un (by omega), pk_un (by omega)]
      · rw [if_pos d2, if_pos d2, sr_sr, sr_self, pk_un (show 8 ≠ 9 by decide), pk_un (show 8 ≠ 10 by decide), pk_us, nI_1]
        refine ⟨⟨_, rfl, ⟨?_, ?_, ?_, ?_⟩, fun j hj => ?_⟩, b2, trivial⟩
        · rw [pk_un (by decide), pk_un (by decide), pk_un (by decide), pk_un (by decide)]; exact h7
        · rw [pk_us]
          unfold eA
          rw [if_neg (by omega), if_pos (by omega)]
        · rw [pk_un (by decide), pk_us, htA, show typ (B b) = 3 by omega]; rfl
        · rw [pk_un (by decide), pk_un (by decide), pk_us, htA, if_neg (by omega)]; rfl
        · rw [pk_un (by omega), pk_un (by omega), pk_un (by omega), pk_un (by omega)]
  · have hn1 : ¬ (0 : Int32) ≤ -1 := by decide
    have htA : tA B n b = 0 := if_pos (by omega)
    simp only [c, if_false, hn1]
    refine ⟨⟨_, rfl, ⟨?_, ?_, ?_, ?_⟩, fun j hj => ?_⟩, b2, trivial⟩
    · rw [pk_un (by decide), pk_un (by decide), pk_un (by decide)]; exact h7
    · rw [pk_un (by decide), pk_un (by decide), pk_us]
      unfold eA
      rw [if_pos (by omega)]
    · rw [pk_us, htA]; rfl
    · rw [pk_un (by decide), pk_us, htA, if_neg (by omega)]; rfl
    · rw [pk_un (by omega), pk_un (by omega), pk_un (by omega)]
theorem ml_blank {N n : Nat} {B : Nat → Nat} (hn : n ≤ 120) (hB : ∀ j, B j < 256) (hN : 130 ≤ N) : ∀ d k fuel (τ : tw_T), k + d = n → d < fuel → tbM n B τ → τ 190 7 = nI k →
    (∃ r, lg_X9_token_8 N fuel τ = tw_sr τ 190 r ∧ tkM B n (sk (fun j => decide (B j = 32)) d k) r ∧ ∀ j, (j < 7 ∨ 10 < j) → r j = τ 190 j) ∧ lo_X9_token_8 N fuel τ := by
  intro d
  induction d with
  | zero =>
    intro k fuel τ hk hf hb h7
    obtain ⟨u, rfl⟩ : ∃ u, fuel = u + 1 := ⟨fuel - 1, by omega⟩
    obtain ⟨b1, b2⟩ := m_byte (k := k) hn (by omega) hb
    have hne : ¬ (-1 : Int32) = 32 := by decide
    obtain ⟨a1, a2⟩ := m_mR hn hB hN hb (show k ≤ n by omega) h7
    rw [t8_g, t8_p, h7, b1, if_neg (show ¬ k < n by omega), if_neg hne, if_neg hne]
    exact ⟨a1, b2, a2⟩
  | succ d ih =>
    intro k fuel τ hk hf hb h7
    obtain ⟨u, rfl⟩ : ∃ u, fuel = u + 1 := ⟨fuel - 1, by omega⟩
    obtain ⟨b1, b2⟩ := m_byte (k := k) hn (by omega) hb
    have hBk := hB k
    have e32 : nI (B k) = (32 : Int32) ↔ B k = 32 := nI_eq (b := 32) (by omega) (by decide)
    rw [t8_g, t8_p, h7, b1, if_pos (show k < n by omega), nI_1]
    simp only [e32]
    by_cases c : B k = 32
    · rw [if_pos c, if_pos c, sk_yes (decide_eq_true c)]
      obtain ⟨⟨r, a1, a2, a3⟩, a4⟩ := ih (k + 1) u (tw_sr τ 190 (upd (τ 190) 7 (nI (k + 1)))) (by omega) (by omega) (tbM_sr hb (by rw [pk_un (by decide)])) (by rw [sr_self, pk_us])
      rw [sr_sr] at a1
      exact ⟨⟨r, a1, a2, fun j hj => by rw [a3 j hj, sr_self, pk_un (by omega)]⟩, b2, a4⟩
    · rw [if_neg c, if_neg c, sk_no (decide_eq_false c)]
      obtain ⟨a1, a2⟩ := m_mR hn hB hN hb (show k ≤ n by omega) h7
      exact ⟨a1, b2, a2⟩
theorem m_next {N n e : Nat} {B : Nat → Nat} {τ : tw_T} (hn : n ≤ 120) (hB : ∀ j, B j < 256) (hN : 130 ≤ N) (he : e ≤ n) (hb : tbM n B τ) (h8 : τ 190 8 = nI e) :
    (∃ r, g_X9_token N τ = tw_sr τ 190 r ∧ tkM B n (bT B n e) r ∧ ∀ j, (j < 7 ∨ 10 < j) → r j = τ 190 j) ∧ p_X9_token N τ := by
  unfold g_X9_token p_X9_token
  rw [h8]
  obtain ⟨⟨r, a1, a2, a3⟩, a4⟩ := ml_blank hn hB hN (n - e) e N (tw_sr τ 190 (upd (τ 190) 7 (nI e))) (by omega) (by omega) (tbM_sr hb (by rw [pk_un (by decide)])) (by rw [sr_self, pk_us])
  rw [sr_sr] at a1
  exact ⟨⟨r, a1, a2, fun j hj => by rw [a3 j hj, sr_self, pk_un (by omega)]⟩, a4⟩
