/-! ===== words of a text ===== -/
def nx (B : Nat → Nat) (n b : Nat) : Nat := bT B n (eA B n b)
theorem bT_le {B : Nat → Nat} {n e : Nat} (h : e ≤ n) : e ≤ bT B n e ∧ bT B n e ≤ n := by
  have := sk_le (fun j => decide (B j = 32)) (n - e) e
  unfold bT
  omega
theorem nx_le {B : Nat → Nat} {n b : Nat} (h : b ≤ n) : b ≤ nx B n b ∧ nx B n b ≤ n := by
  have h1 := eA_le (B := B) h
  have h2 := bT_le (B := B) h1.2
  unfold nx
  omega
theorem nx_gt {B : Nat → Nat} {n b : Nat} (h : b < n) : b < nx B n b := by
  have h0 := eA_gt (B := B) h
  have h1 := eA_le (B := B) (Nat.le_of_lt h)
  have h2 := bT_le (B := B) h1.2
  unfold nx
  omega
theorem tA_lt {B : Nat → Nat} {n b : Nat} (h : tA B n b ≠ 0) : b < n := by
  unfold tA at h
  by_cases c : n ≤ b
  · rw [if_pos c] at h; exact absurd rfl h
  · omega
theorem tA_le (B : Nat → Nat) (n b : Nat) : tA B n b ≤ 3 := by
  have := typ_le (B b)
  unfold tA
  split <;> omega
theorem tC_le (B : Nat → Nat) (n b : Nat) : tC B n b ≤ 4 := by
  have := tA_le B n b
  unfold tC
  split <;> omega
theorem tC_eq {B : Nat → Nat} {n b t : Nat} (ht : t ≤ 2) : tC B n b = t ↔ tA B n b = t := by
  unfold tC
  split <;> omega
def eqL (B : Nat → Nat) (L : List Int32) (b : Nat) : Nat → Nat → Bool
  | 0, _ => true
  | d + 1, k => decide (nI (B (b + k)) = L.getD k 0) && eqL B L b d (k + 1)
def wdB (B : Nat → Nat) (n b : Nat) (L : List Int32) : Bool := decide (tA B n b = 1) && (decide (eA B n b - b = L.length) && eqL B L b L.length 0)
theorem wd_type {B : Nat → Nat} {n b : Nat} {L : List Int32} (h : wdB B n b L = true) : tA B n b = 1 := by
  unfold wdB at h
  rw [Bool.and_eq_true, decide_eq_true_eq] at h
  exact h.1
theorem wd_len {B : Nat → Nat} {n b : Nat} {L : List Int32} (h : wdB B n b L = true) : eA B n b - b = L.length := by
  unfold wdB at h
  rw [Bool.and_eq_true, Bool.and_eq_true, decide_eq_true_eq, decide_eq_true_eq] at h
  exact h.2.1
theorem wd_at {B : Nat → Nat} {n b : Nat} {x : Int32} {L : List Int32} (h : wdB B n b (x :: L) = true) : nI (B b) = x := by
  unfold wdB at h
  rw [Bool.and_eq_true, Bool.and_eq_true] at h
  have h2 : (decide (nI (B b) = x) && eqL B (x :: L) b L.length 1) = true := h.2.2
  rw [Bool.and_eq_true, decide_eq_true_eq] at h2
  exact h2.1
theorem wd_lt {B : Nat → Nat} {n b : Nat} {L : List Int32} (h : wdB B n b L = true) : b < n := tA_lt (by rw [wd_type h]; decide)
theorem byt_len : ∀ w, w < 28 → (tw_byt.getD w []).length ≤ 7 := by decide
theorem byt_same : ∀ w, w < 14 → tw_byt.getD (14 + w) [] = tw_byt.getD w [] := by decide
def curC (B : Nat → Nat) (n b : Nat) (τ : tw_T) : Prop := tbR n B τ ∧ tkR B n b (τ 27)
def curM (B : Nat → Nat) (n b : Nat) (τ : tw_T) : Prop := tbM n B τ ∧ tkM B n b (τ 190)
theorem l_word {N n b w : Nat} {B : Nat → Nat} {τ : tw_T} (hn : n ≤ 120) (hL : b + (tw_byt.getD w []).length ≤ n) (h : curC B n b τ) : ∀ d k fuel, k + d = (tw_byt.getD w []).length → d < fuel →
    lf_X7_isWord_28 N w fuel (nI k) τ = boolI (eqL B (tw_byt.getD w []) b d k) ∧ lo_X7_isWord_28 N w fuel (nI k) τ := by
  generalize hLL : tw_byt.getD w [] = L at *
  have h3 : τ 27 3 = nI b := h.2.2.2.1
  intro d
  induction d with
  | zero =>
    intro k fuel hk hf
    obtain ⟨u, rfl⟩ : ∃ u, fuel = u + 1 := ⟨fuel - 1, by omega⟩
    have hle : nI L.length ≤ nI k := nI_le (by omega) (by omega)
    rw [lf_X7_isWord_28, lo_X7_isWord_28, hLL, if_pos hle, if_pos hle]
    exact ⟨rfl, trivial⟩
  | succ d ih =>
    intro k fuel hk hf
    obtain ⟨u, rfl⟩ : ∃ u, fuel = u + 1 := ⟨fuel - 1, by omega⟩
    have hgt : ¬ nI L.length ≤ nI k := nI_ge (by omega) (by omega)
    have v1 : vp_in (nI (b + k)) 120 := vp_in_nI (by omega) (by decide)
    have v2 : vp_in (nI k) L.length := vp_in_nI (by omega) (by omega)
    obtain ⟨a1, a2⟩ := ih (k + 1) u (by omega) (by omega)
    rw [lf_X7_isWord_28, lo_X7_isWord_28, hLL, if_neg hgt, if_neg hgt, h3, nI_add, nI_clamp (by omega), nI_clamp (by omega), h.1 (b + k) (by omega), nI_1]
    by_cases c : nI (B (b + k)) = L.getD k 0
    · rw [if_pos c, if_pos c]
      have e : eqL B L b (d + 1) k = eqL B L b d (k + 1) := by
        show (decide _ && _) = _
        rw [decide_eq_true c, Bool.true_and]
      rw [e]
      exact ⟨a1, v1, v2, a2⟩
    · rw [if_neg c, if_neg c]
      have e : eqL B L b (d + 1) k = false := by
        show (decide _ && _) = _
        rw [decide_eq_false c, Bool.false_and]
      rw [e]
      exact ⟨rfl, v1, v2, trivial⟩
theorem c_word {N n b w : Nat} {B : Nat → Nat} {τ : tw_T} (hw : w < 28) (hn : n ≤ 120) (hN : 10 ≤ N) (hbn : b ≤ n) (h : curC B n b τ) : f_X7_isWord N w τ = boolI (wdB B n b (tw_byt.getD w [])) ∧ p_X7_isWord N w τ := by
  obtain ⟨hb, k1, k2, k3, k4, k5⟩ := h
  have hl := byt_len w hw
  have he := eA_le (B := B) hbn
  have htc := tC_le B n b
  have e1 : (nI (tC B n b) = (1 : Int32)) ↔ tA B n b = 1 := by
    rw [← tC_eq (show 1 ≤ 2 by decide)]
    exact nI_eq (b := 1) (by omega) (by decide)
  have e2 : (nI (eA B n b - b) = nI (tw_byt.getD w []).length) ↔ eA B n b - b = (tw_byt.getD w []).length := nI_eq (by omega) (by omega)
  unfold f_X7_isWord p_X7_isWord
  rw [k2, k3, k4, pk_sub he.1]
  simp only [e1, e2]
  by_cases c1 : tA B n b = 1
  · rw [if_pos c1, if_pos c1]
    by_cases c2 : eA B n b - b = (tw_byt.getD w []).length
    · rw [if_pos c2, if_pos c2]
      obtain ⟨a1, a2⟩ := l_word (N := N) (w := w) hn (by omega) ⟨hb, k1, k2, k3, k4, k5⟩ (tw_byt.getD w []).length 0 N (by omega) (by omega)
      refine ⟨?_, a2⟩
      have a1' : lf_X7_isWord_28 N w N 0 τ = _ := a1
      rw [a1']
      unfold wdB
      rw [decide_eq_true c1, decide_eq_true c2, Bool.true_and, Bool.true_and]
    · rw [if_neg c2, if_neg c2]
      unfold wdB
      rw [decide_eq_true c1, decide_eq_false c2, Bool.true_and, Bool.false_and]
      exact ⟨rfl, trivial⟩
  · rw [if_neg c1, if_neg c1]
    unfold wdB
    rw [decide_eq_false c1, Bool.false_and]
    exact ⟨rfl, trivial⟩
theorem ml_word0 {N n b w : Nat} {τ : tw_T} (hn : 0 < n) : lf_X9_isWord_32 N w n 0 0 τ = 0 ∧ lo_X9_isWord_32 N w n 0 0 τ := by
  obtain ⟨u, rfl⟩ : ∃ u, n = u + 1 := ⟨n - 1, by omega⟩
  have h0 : (0 : Int32) = 0 := rfl
  rw [lf_X9_isWord_32, lo_X9_isWord_32]
  by_cases c : nI (tw_byt.getD w []).length ≤ (0 : Int32)
  · rw [if_pos c, if_pos c]; exact ⟨rfl, rfl, trivial⟩
  · rw [if_neg c, if_neg c, if_pos h0, if_pos h0]; exact ⟨rfl, rfl, trivial⟩
theorem ml_word {N n b w : Nat} {B : Nat → Nat} {τ : tw_T} (hn : n ≤ 120) (hL : b + (tw_byt.getD w []).length ≤ n) (h : curM B n b τ) : ∀ d k fuel, k + d = (tw_byt.getD w []).length → d < fuel →
    lf_X9_isWord_32 N w fuel 1 (nI k) τ = boolI (eqL B (tw_byt.getD w []) b d k) ∧ lo_X9_isWord_32 N w fuel 1 (nI k) τ := by
  generalize hLL : tw_byt.getD w [] = L at *
  have h7 : τ 190 7 = nI b := h.2.1
  have h10 : ¬ (1 : Int32) = 0 := by decide
  intro d
  induction d with
  | zero =>
    intro k fuel hk hf
    obtain ⟨u, rfl⟩ : ∃ u, fuel = u + 1 := ⟨fuel - 1, by omega⟩
    have hle : nI L.length ≤ nI k := nI_le (by omega) (by omega)
    rw [lf_X9_isWord_32, lo_X9_isWord_32, hLL, if_pos hle, if_pos hle]
    exact ⟨rfl, rfl, trivial⟩
  | succ d ih =>
    intro k fuel hk hf
    obtain ⟨u, rfl⟩ : ∃ u, fuel = u + 1 := ⟨fuel - 1, by omega⟩
    have hgt : ¬ nI L.length ≤ nI k := nI_ge (by omega) (by omega)
    have v1 : vp_in (nI (b + k)) 120 := vp_in_nI (by omega) (by decide)
    have v2 : vp_in (nI k) L.length := vp_in_nI (by omega) (by omega)
    obtain ⟨a1, a2⟩ := ih (k + 1) u (by omega) (by omega)
    rw [lf_X9_isWord_32, lo_X9_isWord_32, hLL, if_neg hgt, if_neg hgt, if_neg h10, if_neg h10, h7, nI_add, nI_clamp (by omega), nI_clamp (by omega), h.1.2 (b + k) (by omega), nI_1]
    by_cases c : nI (B (b + k)) = L.getD k 0
    · rw [if_pos c, if_pos c]
      have e : eqL B L b (d + 1) k = eqL B L b d (k + 1) := by
        show (decide _ && _) = _
        rw [decide_eq_true c, Bool.true_and]
      rw [e]
      exact ⟨a1, v1, v2, a2⟩
    · rw [if_neg c, if_neg c]
      have e : eqL B L b (d + 1) k = false := by
        show (decide _ && _) = _
        rw [decide_eq_false c, Bool.false_and]
      rw [e]
      obtain ⟨w', rfl⟩ : ∃ w', u = w' + 1 := ⟨u - 1, by omega⟩
      have h0 : (0 : Int32) = 0 := rfl
      rw [lf_X9_isWord_32, lo_X9_isWord_32, hLL]
      by_cases q : nI L.length ≤ nI (k + 1)
      · rw [if_pos q, if_pos q]; exact ⟨rfl, v1, v2, rfl, trivial⟩
      · rw [if_neg q, if_neg q, if_pos h0, if_pos h0]; exact ⟨rfl, v1, v2, rfl, trivial⟩
theorem m_word {N n b w : Nat} {B : Nat → Nat} {τ : tw_T} (hw : w < 28) (hn : n ≤ 120) (hN : 10 ≤ N) (hbn : b ≤ n) (h : curM B n b τ) : f_X9_isWord N w τ = boolI (wdB B n b (tw_byt.getD w [])) ∧ p_X9_isWord N w τ := by
  obtain ⟨hb, k7, k8, k9, k10⟩ := h
  have hl := byt_len w hw
  have he := eA_le (B := B) hbn
  have hta := tA_le B n b
  have e1 : (nI (tA B n b) = (1 : Int32)) ↔ tA B n b = 1 := nI_eq (b := 1) (by omega) (by decide)
  have e2 : (nI (eA B n b - b) = nI (tw_byt.getD w []).length) ↔ eA B n b - b = (tw_byt.getD w []).length := nI_eq (by omega) (by omega)
  obtain ⟨z1, z2⟩ := ml_word0 (N := N) (n := N) (b := b) (w := w) (τ := τ) (by omega)
  unfold f_X9_isWord p_X9_isWord
  rw [k9, k8, k7, pk_sub he.1]
  simp only [e1, e2]
  by_cases c1 : tA B n b = 1
  · rw [if_pos c1, if_pos c1]
    by_cases c2 : eA B n b - b = (tw_byt.getD w []).length
    · rw [if_pos c2, if_pos c2]
      obtain ⟨a1, a2⟩ := ml_word (N := N) (w := w) hn (by omega) ⟨hb, k7, k8, k9, k10⟩ (tw_byt.getD w []).length 0 N (by omega) (by omega)
      refine ⟨?_, a2⟩
      have a1' : lf_X9_isWord_32 N w N 1 0 τ = _ := a1
      rw [a1']
      unfold wdB
      rw [decide_eq_true c1, decide_eq_true c2, Bool.true_and, Bool.true_and]
    · rw [if_neg c2, if_neg c2]
      unfold wdB
      rw [decide_eq_true c1, decide_eq_false c2, Bool.true_and, Bool.false_and]
      exact ⟨z1, z2⟩
  · rw [if_neg c1, if_neg c1]
    unfold wdB
    rw [decide_eq_false c1, Bool.false_and]
    exact ⟨z1, z2⟩
