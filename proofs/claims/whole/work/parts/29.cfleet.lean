/-! ===== the class's fleets ===== -/
def fsame (f m : Nat) (τ τ' : tw_T) : Prop := ∀ q, (q < f + 2 ∨ f + 2 + m ≤ q) → τ' q = τ q
theorem shR_cong {r r' : Nat → Int32} {s : Nat → Nat} (e : r = r') (h : shR r' s) : shR r s := by rw [e]; exact h
theorem shR_eq {r : Nat → Int32} {s s' : Nat → Nat} (h : shR r s) (e : s = s') : shR r s' := by rw [← e]; exact h
theorem l_fsail {N f m sh t : Nat} {S : Nat → Nat → Nat} (hm : m ≤ 8) (hsh : sh < 4) (ht : t < 2 ^ 30) (os : ∀ j, j < m → okS (S j)) : ∀ d i fuel (τ : tw_T), i + d = m → d < fuel → τ f 1 = nI m → (∀ j, j < m → shR (τ (f + 2 + j)) (if j < i then sailN sh t (S j) else S j)) →
    (fsame f m τ (lg_X1_sail_2 N f fuel (nI sh) (nI t) (nI i) τ) ∧ ∀ j, j < m → shR ((lg_X1_sail_2 N f fuel (nI sh) (nI t) (nI i) τ) (f + 2 + j)) (sailN sh t (S j))) ∧ lo_X1_sail_2 N f fuel (nI sh) (nI t) (nI i) τ := by
  intro d
  induction d with
  | zero =>
    intro i fuel τ hi hf hn hs
    obtain ⟨g, rfl⟩ : ∃ g, fuel = g + 1 := ⟨fuel - 1, by omega⟩
    have e : i = m := by omega
    subst e
    rw [lg_X1_sail_2, lo_X1_sail_2, hn, if_pos (nI_le (Nat.le_refl i) (by omega)), if_pos (nI_le (Nat.le_refl i) (by omega))]
    exact ⟨⟨fun _ _ => rfl, fun j hj => shR_eq (hs j hj) (if_pos hj)⟩, trivial⟩
  | succ d ih =>
    intro i fuel τ hi hf hn hs
    obtain ⟨g, rfl⟩ : ∃ g, fuel = g + 1 := ⟨fuel - 1, by omega⟩
    have him : i < m := by omega
    rw [lg_X1_sail_2, lo_X1_sail_2, hn, if_neg (nI_ge him (by omega)), if_neg (nI_ge him (by omega)), nI_1, nI_clamp (by omega)]
    have h0 : shR (τ (f + 2 + i)) (S i) := shR_eq (hs i him) (if_neg (Nat.lt_irrefl i))
    obtain ⟨r, h1, h2⟩ := c_sail (t := t) h0 (os i him) hsh ht
    rw [h1]
    obtain ⟨⟨h3, h4⟩, h5⟩ := ih (i + 1) g (tw_sr τ (f + 2 + i) r) (by omega) (by omega) (by rw [sr_ne (by omega)]; exact hn) (fun j hj => by
      by_cases e : j = i
      · subst e
        rw [sr_self, if_pos (by omega)]
        exact h2
      · rw [sr_ne (by omega)]
        refine shR_eq (hs j hj) ?_
        by_cases c : j < i
        · rw [if_pos c, if_pos (by omega)]
        · rw [if_neg c, if_neg (by omega)])
    refine ⟨⟨fun q hq => ?_, h4⟩, vp_in_nI (by omega) (by decide), h5⟩
    rw [h3 q hq, sr_ne (by omega)]
theorem c_fsail {N f m sh t : Nat} {S : Nat → Nat → Nat} {τ : tw_T} (hm : m ≤ 8) (hsh : sh < 4) (ht : t < 2 ^ 30) (os : ∀ j, j < m → okS (S j)) (hn : τ f 1 = nI m) (hs : ∀ j, j < m → shR (τ (f + 2 + j)) (S j)) (hN : m < N) :
    (fsame f m τ (g_X1_sail N f (nI sh) (nI t) τ) ∧ ∀ j, j < m → shR ((g_X1_sail N f (nI sh) (nI t) τ) (f + 2 + j)) (sailN sh t (S j))) ∧ p_X1_sail N f (nI sh) (nI t) τ :=
  l_fsail hm hsh ht os m 0 N τ (by omega) hN hn (fun j hj => shR_eq (hs j hj) (if_neg (Nat.not_lt_zero j)).symm)
theorem l_fsailOn {N f o m n T : Nat} {M : Nat → Nat} {S : Nat → Nat → Nat} (ok : okL T M) (hm : m ≤ 8) (hT : M 0 + n ≤ 99999) (os : ∀ j, j < m → okS (S j)) (ho : o < f + 2 ∨ f + 2 + m ≤ o) (hN : m < N) : ∀ d i fuel (τ : tw_T), i + d = n → d < fuel → τ f 1 = nI m → litR (τ o) M → (∀ j, j < m → shR (τ (f + 2 + j)) (sailK M (S j) i)) →
    (fsame f m τ (lg_X1_sailOn_2 N f o fuel (nI n) (nI i) τ) ∧ ∀ j, j < m → shR ((lg_X1_sailOn_2 N f o fuel (nI n) (nI i) τ) (f + 2 + j)) (sailK M (S j) n)) ∧ lo_X1_sailOn_2 N f o fuel (nI n) (nI i) τ := by
  intro d
  induction d with
  | zero =>
    intro i fuel τ hi hf hn hl hs
    obtain ⟨g, rfl⟩ : ∃ g, fuel = g + 1 := ⟨fuel - 1, by omega⟩
    have e : i = n := by omega
    subst e
    rw [lg_X1_sailOn_2, lo_X1_sailOn_2, if_pos (nI_le (Nat.le_refl i) (by omega)), if_pos (nI_le (Nat.le_refl i) (by omega))]
    exact ⟨⟨fun _ _ => rfl, hs⟩, trivial⟩
  | succ d ih =>
    intro i fuel τ hi hf hn hl hs
    obtain ⟨g, rfl⟩ : ∃ g, fuel = g + 1 := ⟨fuel - 1, by omega⟩
    have him : i < n := by omega
    rw [lg_X1_sailOn_2, lo_X1_sailOn_2, if_neg (nI_ge him (by omega)), if_neg (nI_ge him (by omega)), l_shown hl ok (by omega), l_tick hl (by omega), nI_1]
    obtain ⟨⟨h1, h2⟩, h3⟩ := c_fsail (N := N) (f := f) (t := M 0 + i) (S := fun j => sailK M (S j) i) hm (shN_lt (tk M i)) (by omega) (fun j hj => okS_sailK (os j hj) i) hn hs hN
    obtain ⟨⟨h4, h5⟩, h6⟩ := ih (i + 1) g _ (by omega) (by omega) (by rw [h1 f (by omega)]; exact hn) (by rw [h1 o ho]; exact hl) h2
    exact ⟨⟨fun q hq => by rw [h4 q hq, h1 q hq], h5⟩, h3, h6⟩
theorem c_fsailOn {N f o m n T : Nat} {M : Nat → Nat} {S : Nat → Nat → Nat} {τ : tw_T} (ok : okL T M) (hm : m ≤ 8) (hT : M 0 + n ≤ 99999) (os : ∀ j, j < m → okS (S j)) (ho : o < f + 2 ∨ f + 2 + m ≤ o) (hN : m < N) (hN2 : n < N) (hn : τ f 1 = nI m) (hl : litR (τ o) M) (hs : ∀ j, j < m → shR (τ (f + 2 + j)) (S j)) :
    (fsame f m τ (g_X1_sailOn N f o (nI n) τ) ∧ ∀ j, j < m → shR ((g_X1_sailOn N f o (nI n) τ) (f + 2 + j)) (sailK M (S j) n)) ∧ p_X1_sailOn N f o (nI n) τ :=
  l_fsailOn ok hm hT os ho hN n 0 N τ (by omega) hN2 hn hl hs
/-- ships of one fleet come into another -/
theorem l_ftake {N f o m : Nat} (hm : m ≤ 8) (hd : o + 10 ≤ f ∨ f + 10 ≤ o) : ∀ d i fuel (τ : tw_T), i + d = m → d < fuel → τ f 1 = nI m →
    (∀ q, (q < f + 2 + i ∨ f + 2 + m ≤ q) → lg_X1_take_10 N f o fuel (nI i) τ q = τ q) ∧ (∀ j, i ≤ j → j < m → ∀ a, a < 7 → lg_X1_take_10 N f o fuel (nI i) τ (f + 2 + j) a = τ (o + 2 + j) a) ∧ lo_X1_take_10 N f o fuel (nI i) τ := by
  intro d
  induction d with
  | zero =>
    intro i fuel τ hi hf hn
    obtain ⟨g, rfl⟩ : ∃ g, fuel = g + 1 := ⟨fuel - 1, by omega⟩
    have e : i = m := by omega
    subst e
    rw [lg_X1_take_10, lo_X1_take_10, hn, if_pos (nI_le (Nat.le_refl i) (by omega)), if_pos (nI_le (Nat.le_refl i) (by omega))]
    exact ⟨fun _ _ => rfl, fun j h1 h2 => absurd h2 (by omega), trivial⟩
  | succ d ih =>
    intro i fuel τ hi hf hn
    obtain ⟨g, rfl⟩ : ∃ g, fuel = g + 1 := ⟨fuel - 1, by omega⟩
    have him : i < m := by omega
    rw [lg_X1_take_10, lo_X1_take_10, hn, if_neg (nI_ge him (by omega)), if_neg (nI_ge him (by omega)), nI_1, nI_clamp (by omega)]
    obtain ⟨r, h1, h2⟩ := c_take (τ := τ) (k := f + 2 + i) (o := o + 2 + i) (by omega)
    rw [h1]
    obtain ⟨h3, h4, h5⟩ := ih (i + 1) g (tw_sr τ (f + 2 + i) r) (by omega) (by omega) (by rw [sr_ne (by omega)]; exact hn)
    refine ⟨fun q hq => ?_, fun j hj1 hj2 a ha => ?_, vp_in_nI (by omega) (by decide), vp_in_nI (by omega) (by decide), h5⟩
    · rw [h3 q (by omega), sr_ne (by omega)]
    · by_cases e : j = i
      · subst e
        rw [h3 (f + 2 + j) (by omega), sr_self, h2 a ha]
      · rw [h4 j (by omega) hj2 a ha, sr_ne (by omega)]
theorem c_ftake {N f o m : Nat} {τ : tw_T} (hm : m ≤ 8) (hd : o + 10 ≤ f ∨ f + 10 ≤ o) (hn : τ o 1 = nI m) (hN : m < N) :
    (∀ q, (q < f ∨ f + 2 + m ≤ q) → g_X1_take N f o τ q = τ q) ∧ g_X1_take N f o τ f 1 = nI m ∧ (∀ j, j < m → ∀ a, a < 7 → g_X1_take N f o τ (f + 2 + j) a = τ (o + 2 + j) a) ∧ p_X1_take N f o τ := by
  obtain ⟨h1, h2, h3⟩ := l_ftake (N := N) (f := f) (o := o) hm hd m 0 N (tw_sr τ f (upd (τ f) 1 (τ o 1))) (by omega) hN (by rw [sr_self, pk_us]; exact hn)
  refine ⟨fun q hq => ?_, ?_, fun j hj a ha => ?_, h3⟩
  · show lg_X1_take_10 N f o N (nI 0) _ q = _
    rw [h1 q (by omega), sr_ne (by omega)]
  · show lg_X1_take_10 N f o N (nI 0) _ f 1 = _
    rw [h1 f (by omega), sr_self, pk_us]
    exact hn
  · show lg_X1_take_10 N f o N (nI 0) _ (f + 2 + j) a = _
    rw [h2 j (by omega) hj a ha, sr_ne (by omega)]
/-! sums over a fleet -/
def smN (g : Nat → Nat) : Nat → Nat
  | 0 => 0
  | k + 1 => smN g k + g k
theorem smN_le {g : Nat → Nat} {c : Nat} : ∀ {k}, (∀ j, j < k → g j ≤ c) → smN g k ≤ k * c
  | 0, _ => by simp [smN]
  | k + 1, h => by
    have h1 := smN_le (k := k) (fun j hj => h j (by omega))
    have h2 := h k (by omega)
    show smN g k + g k ≤ _
    rw [Nat.succ_mul]
    omega
theorem smN_cong {g g' : Nat → Nat} : ∀ {k}, (∀ j, j < k → g j = g' j) → smN g k = smN g' k
  | 0, _ => rfl
  | k + 1, h => by
    show smN g k + g k = smN g' k + g' k
    rw [smN_cong (k := k) (fun j hj => h j (by omega)), h k (by omega)]
theorem l_str {N f m : Nat} {g : Nat → Nat} {τ : tw_T} (hm : m ≤ 8) (hn : τ f 1 = nI m) (hs : ∀ j, j < m → τ (f + 2 + j) 5 = nI (g j)) : ∀ d i fuel, i + d = m → d < fuel → lf_X1_strandedOfAll_4 N f fuel (nI (smN g i)) (nI i) τ = nI (smN g m) ∧ lo_X1_strandedOfAll_4 N f fuel (nI (smN g i)) (nI i) τ := by
  intro d
  induction d with
  | zero =>
    intro i fuel hi hf
    obtain ⟨x, rfl⟩ : ∃ x, fuel = x + 1 := ⟨fuel - 1, by omega⟩
    have e : i = m := by omega
    subst e
    rw [lf_X1_strandedOfAll_4, lo_X1_strandedOfAll_4, hn, if_pos (nI_le (Nat.le_refl i) (by omega)), if_pos (nI_le (Nat.le_refl i) (by omega))]
    exact ⟨rfl, trivial⟩
  | succ d ih =>
    intro i fuel hi hf
    obtain ⟨x, rfl⟩ : ∃ x, fuel = x + 1 := ⟨fuel - 1, by omega⟩
    have him : i < m := by omega
    rw [lf_X1_strandedOfAll_4, lo_X1_strandedOfAll_4, hn, if_neg (nI_ge him (by omega)), if_neg (nI_ge him (by omega)), nI_1, nI_clamp (by omega), hs i him, nI_add]
    obtain ⟨h1, h2⟩ := ih (i + 1) x (by omega) (by omega)
    exact ⟨h1, vp_in_nI (by omega) (by decide), h2⟩
theorem c_str {N f m : Nat} {g : Nat → Nat} {τ : tw_T} (hm : m ≤ 8) (hn : τ f 1 = nI m) (hs : ∀ j, j < m → τ (f + 2 + j) 5 = nI (g j)) (hN : m < N) : f_X1_strandedOfAll N f τ = nI (smN g m) ∧ p_X1_strandedOfAll N f τ := l_str hm hn hs m 0 N (by omega) hN
theorem l_saw {N f m : Nat} {g : Nat → Nat} {τ : tw_T} (hm : m ≤ 8) (hn : τ f 1 = nI m) (hs : ∀ j, j < m → τ (f + 2 + j) 6 = nI (g j)) : ∀ d i fuel, i + d = m → d < fuel → lf_X1_sawOfAll_4 N f fuel (nI (smN g i)) (nI i) τ = nI (smN g m) ∧ lo_X1_sawOfAll_4 N f fuel (nI (smN g i)) (nI i) τ := by
  intro d
  induction d with
  | zero =>
    intro i fuel hi hf
    obtain ⟨x, rfl⟩ : ∃ x, fuel = x + 1 := ⟨fuel - 1, by omega⟩
    have e : i = m := by omega
    subst e
    rw [lf_X1_sawOfAll_4, lo_X1_sawOfAll_4, hn, if_pos (nI_le (Nat.le_refl i) (by omega)), if_pos (nI_le (Nat.le_refl i) (by omega))]
    exact ⟨rfl, trivial⟩
  | succ d ih =>
    intro i fuel hi hf
    obtain ⟨x, rfl⟩ : ∃ x, fuel = x + 1 := ⟨fuel - 1, by omega⟩
    have him : i < m := by omega
    rw [lf_X1_sawOfAll_4, lo_X1_sawOfAll_4, hn, if_neg (nI_ge him (by omega)), if_neg (nI_ge him (by omega)), nI_1, nI_clamp (by omega), hs i him, nI_add]
    obtain ⟨h1, h2⟩ := ih (i + 1) x (by omega) (by omega)
    exact ⟨h1, vp_in_nI (by omega) (by decide), h2⟩
theorem c_saw {N f m : Nat} {g : Nat → Nat} {τ : tw_T} (hm : m ≤ 8) (hn : τ f 1 = nI m) (hs : ∀ j, j < m → τ (f + 2 + j) 6 = nI (g j)) (hN : m < N) : f_X1_sawOfAll N f τ = nI (smN g m) ∧ p_X1_sawOfAll N f τ := l_saw hm hn hs m 0 N (by omega) hN
theorem ml_sum {N m a : Nat} {g : Nat → Nat} {τ : tw_T} (ha : a < 7) (hm : m ≤ 8) (hn : τ 191 1 = nI m) (hs : ∀ j, j < m → τ 191 (17 + 7 * j + a) = nI (g j)) : ∀ d i fuel, i + d = m → d < fuel → lf_X9_sumOf_4 N fuel (nI a) (nI (smN g i)) (nI i) τ = nI (smN g m) ∧ lo_X9_sumOf_4 N fuel (nI a) (nI (smN g i)) (nI i) τ := by
  intro d
  induction d with
  | zero =>
    intro i fuel hi hf
    obtain ⟨x, rfl⟩ : ∃ x, fuel = x + 1 := ⟨fuel - 1, by omega⟩
    have e : i = m := by omega
    subst e
    rw [lf_X9_sumOf_4, lo_X9_sumOf_4, hn, if_pos (nI_le (Nat.le_refl i) (by omega)), if_pos (nI_le (Nat.le_refl i) (by omega))]
    exact ⟨rfl, trivial⟩
  | succ d ih =>
    intro i fuel hi hf
    obtain ⟨x, rfl⟩ : ∃ x, fuel = x + 1 := ⟨fuel - 1, by omega⟩
    have him : i < m := by omega
    have e1 : f_X9_shipAt (nI i) (nI a) τ = nI (17 + 7 * i + a) := by
      unfold f_X9_shipAt
      rw [q_17, q_7, pk_mul, nI_add, nI_add]
    have e2 : f_X9_shipIs (nI i) (nI a) τ = nI (g i) := by
      unfold f_X9_shipIs
      rw [e1, nI_clamp (by omega), hs i him]
    rw [lf_X9_sumOf_4, lo_X9_sumOf_4, hn, if_neg (nI_ge him (by omega)), if_neg (nI_ge him (by omega)), nI_1, e2, nI_add]
    obtain ⟨h1, h2⟩ := ih (i + 1) x (by omega) (by omega)
    refine ⟨h1, ?_, h2⟩
    unfold p_X9_shipIs
    rw [e1]
    exact ⟨vp_in_nI (by omega) (by decide), trivial⟩
theorem m_sum {N m a : Nat} {g : Nat → Nat} {τ : tw_T} (ha : a < 7) (hm : m ≤ 8) (hn : τ 191 1 = nI m) (hs : ∀ j, j < m → τ 191 (17 + 7 * j + a) = nI (g j)) (hN : m < N) : f_X9_sumOf N (nI a) τ = nI (smN g m) ∧ p_X9_sumOf N (nI a) τ := ml_sum ha hm hn hs m 0 N (by omega) hN
