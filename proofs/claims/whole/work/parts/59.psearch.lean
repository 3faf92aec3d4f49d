/-! ===== the search itself ===== -/
/-- what the search knows after the subtree of p at depth d -/
def tfQ (M : Nat → Nat) (t d p w b : Nat) (τ τ' : tw_T) : Prop := ∃ w' b', τ' 49 2 = nI t ∧ τ' 49 3 = nI b' ∧ τ' 49 4 = nI w' ∧ w' < 80000 ∧ b' < 4096 ∧ (∃ u, litR (τ' 50) (mU M 3 u)) ∧ (∀ q, q ≠ 49 → q ≠ 50 → (q < 52 + 10 * (d + 1) ∨ 182 ≤ q) → τ' q = τ q) ∧ lex w' b' w b ∧ (∀ v, v < 4096 → agr (M 0) d p v → lex w' b' (patW M t v) v) ∧ ((w' = w ∧ b' = b) ∨ w' = patW M t b')
theorem l_tf {N T t : Nat} {M : Nat → Nat} (ok : okT T M) (hT : M 0 + 13 ≤ 99999) (hN : 9 ≤ N) (ht : t ≤ 12) : ∀ fuel d p w b (τ : tw_T), d ≤ t → t - d < fuel → p < 4096 → sub (M 0) d p → τ 49 2 = nI t → τ 49 3 = nI b → τ 49 4 = nI w → w < 80000 → b < 4096 → (∃ u, litR (τ 50) (mU M 3 u)) → flD M d p τ →
    p_tf N fuel (nI d) (nI p) τ ∧ tfQ M t d p w b τ (g_tf N fuel (nI d) (nI p) τ) := by
  have hM1 := ok.2.1
  obtain ⟨l0, l3, l4, l5, l6⟩ := okT_L ok
  intro fuel
  induction fuel with
  | zero => intro d p w b τ _ h; exact absurd h (Nat.not_lt_zero _)
  | succ n ih =>
    intro d p w b τ hd hf hp hsub k2 k3 k4 hw hb hl hfl
    have ed : (nI d).toNatClampNeg = d := nI_clamp (by omega)
    have v0 : vp_in (nI d) 13 := vp_in_nI (by omega) (by decide)
    obtain ⟨t1, t2⟩ := c_str (N := N) (f := 52 + 10 * d) (g := fun i => sailK (mU M 3 p) (shipN M i) d 5) (τ := τ) hM1 hfl.1 (fun j hj => hfl.2 j hj 5 (by decide)) (by omega)
    have t1' : f_X1_strandedOfAll N (52 + 10 * d) τ = nI (FD M p d) := t1
    have hFD := FD_lt ok p d
    have hFv : ∀ v, v < 4096 → agr (M 0) d p v → FD M p d ≤ patW M t v := fun v _ ha => by
      rw [agr_FD l6 l4 ha, patW_FD]
      have := FD_mono ok v d (t - d)
      rwa [show d + (t - d) = t by omega] at this
    rw [g_tf_s, p_tf_s, ed, t1', k2, k3, k4]
    simp only [nI_ltI (show w < 2 ^ 31 by omega) (show FD M p d < 2 ^ 31 by omega), nI_eq (show FD M p d < 2 ^ 31 by omega) (show w < 2 ^ 31 by omega), nI_ltI (show p < 2 ^ 31 by omega) (show b < 2 ^ 31 by omega), nI_ltI (show d < 2 ^ 31 by omega) (show t < 2 ^ 31 by omega)]
    -- the search stops here
    have stop : (w < FD M p d ∨ (FD M p d = w ∧ ¬ p < b)) → tfQ M t d p w b τ τ := fun hs =>
      ⟨w, b, k2, k3, k4, hw, hb, hl, fun _ _ _ _ => rfl, Or.inr ⟨rfl, Nat.le_refl _⟩, fun v hv ha => by
        have h1 := hFv v hv ha
        have h2 := sub_le hsub ha
        unfold lex
        omega, Or.inl ⟨rfl, rfl⟩⟩
    -- a leaf
    have leaf : (FD M p d < w ∨ (FD M p d = w ∧ p < b)) → ¬ d < t → tfQ M t d p w b τ (gLf (nI (FD M p d)) (nI p) τ) := fun hs hdt => by
      have e : d = t := by omega
      unfold gLf
      refine ⟨FD M p d, p, ?_, ?_, ?_, by omega, hp, ?_, fun q h1 _ _ => ?_, by unfold lex; omega, fun v hv ha => ?_, Or.inr ?_⟩
      · rw [sr_self, pk_un (by decide), sr_self, pk_un (by decide)]; exact k2
      · rw [sr_self, pk_us]
      · rw [sr_self, pk_un (by decide), sr_self, pk_us]
      · rw [sr_ne (by decide), sr_ne (by decide)]; exact hl
      · rw [sr_ne h1, sr_ne h1]
      · have h1 := hFv v hv ha
        have h2 := sub_le hsub ha
        unfold lex
        omega
      · rw [patW_FD, ← e]
    -- two branches
    have deep : d < t → pB2 N n (nI d) (nI p) τ ∧ tfQ M t d p w b τ (gB2 N n (nI d) (nI p) τ) := fun hdt => by
      have hd12 : d < 12 := by omega
      obtain ⟨u, hu⟩ := hl
      have hm : (M 0 + d) % 12 < 12 := Nat.mod_lt _ (by decide)
      obtain ⟨c1, c2, c3, c4⟩ := c_tb (N := N) (p' := p) ok hT hN hd12 hp (fun _ _ => rfl) hu hfl
      obtain ⟨i1, w1, b1, j2, j3, j4, j5, j6, j7, j8, j9, j10, j11⟩ := ih (d + 1) p w b (tb2 N (nI d) (nI p) τ) hdt (by omega) hp (sub_same hsub) (by rw [c3 49 (by decide) (by omega)]; exact k2) (by rw [c3 49 (by decide) (by omega)]; exact k3) (by rw [c3 49 (by decide) (by omega)]; exact k4) hw hb ⟨p, c2⟩ c1
      have P1 := c4 n i1
      have eG : gB N n (nI d) (nI p) τ = g_tf N n (nI (d + 1)) (nI p) (tb2 N (nI d) (nI p) τ) := by
        unfold gB
        rw [nI_1]
      unfold pB2 gB2
      rw [eG]
      generalize g_tf N n (nI (d + 1)) (nI p) (tb2 N (nI d) (nI p) τ) = G at *
      obtain ⟨u1, hu1⟩ := j7
      have eb : f_X2_bitAhead 50 (nI d) G = nI (2 ^ ((M 0 + d) % 12)) := by
        have := l_bit (n := d) hu1 (by rw [mU_ne (by decide)]; omega)
        rwa [mU_ne (show 0 ≠ 3 by decide)] at this
      rw [eb, q_or]
      have hp2 := or_lt12 hp hm
      have flG : flD M d p G := flD_cong hM1 (fun q a c => by rw [j8 q (by omega) (by omega) (by omega), c3 q (by omega) (by omega)]) hfl
      obtain ⟨e1, e2, e3, e4⟩ := c_tb (N := N) (p' := p ||| 2 ^ ((M 0 + d) % 12)) ok hT hN hd12 hp2 (agr_or hd12) hu1 flG
      obtain ⟨i2, w2, b2, m2, m3, m4, m5, m6, m7, m8, m9, m10, m11⟩ := ih (d + 1) (p ||| 2 ^ ((M 0 + d) % 12)) w1 b1 (tb2 N (nI d) (nI (p ||| 2 ^ ((M 0 + d) % 12))) G) hdt (by omega) hp2 (sub_or hsub) (by rw [e3 49 (by decide) (by omega)]; exact j2) (by rw [e3 49 (by decide) (by omega)]; exact j3) (by rw [e3 49 (by decide) (by omega)]; exact j4) j5 j6 ⟨_, e2⟩ e1
      have P2 := e4 n i2
      have eG2 : gB N n (nI d) (nI (p ||| 2 ^ ((M 0 + d) % 12))) G = g_tf N n (nI (d + 1)) (nI (p ||| 2 ^ ((M 0 + d) % 12))) (tb2 N (nI d) (nI (p ||| 2 ^ ((M 0 + d) % 12))) G) := by
        unfold gB
        rw [nI_1]
      rw [eG2]
      refine ⟨⟨P1, P2, trivial⟩, w2, b2, m2, m3, m4, m5, m6, m7, fun q h1 h2 h3 => ?_, lex_tr m9 j9, fun v hv ha => ?_, ?_⟩
      · rw [m8 q h1 h2 (by omega), e3 q h2 (by omega), j8 q h1 h2 (by omega), c3 q h2 (by omega)]
      · rcases agr_next ha hsub hd12 with h | h
        · exact lex_tr m9 (j10 v hv h)
        · exact m10 v hv h
      · rcases m11 with ⟨x1, x2⟩ | x
        · rw [x1, x2]; exact j11
        · exact Or.inr x
    by_cases c1 : w < FD M p d
    · rw [if_pos c1, if_pos c1]
      exact ⟨⟨v0, t2, trivial⟩, stop (Or.inl c1)⟩
    · rw [if_neg c1, if_neg c1]
      by_cases c2 : FD M p d = w
      · rw [if_pos c2, if_pos c2]
        by_cases c3 : p < b
        · rw [if_pos c3, if_pos c3]
          by_cases c4 : d < t
          · rw [if_pos c4, if_pos c4]
            exact ⟨⟨v0, t2, (deep c4).1⟩, (deep c4).2⟩
          · rw [if_neg c4, if_neg c4]
            exact ⟨⟨v0, t2, trivial⟩, leaf (Or.inr ⟨c2, c3⟩) c4⟩
        · rw [if_neg c3, if_neg c3]
          exact ⟨⟨v0, t2, trivial⟩, stop (Or.inr ⟨c2, c3⟩)⟩
      · rw [if_neg c2, if_neg c2]
        by_cases c4 : d < t
        · rw [if_pos c4, if_pos c4]
          exact ⟨⟨v0, t2, (deep c4).1⟩, (deep c4).2⟩
        · rw [if_neg c4, if_neg c4]
          exact ⟨⟨v0, t2, trivial⟩, leaf (Or.inl (by omega)) c4⟩
theorem st_patternFor {c N : Nat} {τ : tw_T} (hI : Inv c τ) (hc : c < 512) (hN : 5000 ≤ N) (x1 : Int32) : p_X8_patternFor N x1 τ ∧ p_X9_patternFor N x1 (g_X8_patternFor N x1 τ) ∧ f_X8_patternFor N x1 τ = f_X9_patternFor N x1 (g_X8_patternFor N x1 τ) ∧ Inv (c + 1) (g_X9_patternFor N x1 (g_X8_patternFor N x1 τ)) := by
  obtain ⟨M, ok, row, spt, ⟨hl, hn, hs⟩, hz⟩ := inv_M hI
  have hM1 := ok.2.1
  have hM0 := ok.1
  obtain ⟨q1, q2⟩ := fail_B hI hc
  unfold p_X8_patternFor p_X9_patternFor f_X9_patternFor g_X9_patternFor f_X8_patternFor g_X8_patternFor
  by_cases h : f_X8_within x1 0 12 τ = 0
  · have h9 : ∀ τ', f_X9_within x1 0 12 τ' = 0 := fun τ' => h
    simp only [h, h9, if_true]
    exact ⟨trivial, ⟨q1, trivial⟩, rfl, q2⟩
  have h9 : ∀ τ', ¬ f_X9_within x1 0 12 τ' = 0 := fun τ' => h
  obtain ⟨n, hn12, rfl⟩ := w_of (n := 12) rfl (by decide) h
  simp only [h, h9, if_false]
  unfold p_X3_leastPattern f_X3_leastPattern g_X3_leastPattern
  obtain ⟨r, t1, t2⟩ := l_take (τ := τ) (k := 50) (o := 2) (by decide)
  have e0 : 52 + 10 * (0 : Int32).toNatClampNeg = 52 := rfl
  have n12 : (if (12 : Int32) < nI n then (12 : Int32) else nI n) = nI n := if_neg (nI_nlt (a := 12) (b := n) (by omega) (by decide))
  rw [t1, e0, n12]
  obtain ⟨f1, f2, f3, f4⟩ := c_ftake (N := N) (f := 52) (o := 3) (m := M 1) (τ := tw_sr τ 50 r) hM1 (by omega) (by rw [sr_ne (by decide)]; exact hn) (by omega)
  generalize g_X1_take N 52 3 (tw_sr τ 50 r) = A at *
  simp only [sr_self, sr_sr]
  have hlA : litR (A 50) (mU M 3 (M 3)) := by
    rw [mU_id, f1 50 (by omega), sr_self]
    obtain ⟨h0, h1, h2, h3, h4⟩ := hl
    exact ⟨(t2 0 (by decide)).trans h0, (t2 1 (by decide)).trans h1, (t2 2 (by decide)).trans h2, (t2 3 (by decide)).trans h3, (t2 4 (by decide)).trans h4⟩
  generalize hB : tw_sr A 49 (upd (upd (upd (A 49) 2 (nI n)) 3 0) 4 79993) = B
  have B49 : B 49 = upd (upd (upd (A 49) 2 (nI n)) 3 0) 4 79993 := by rw [← hB, sr_self]
  have Bq : ∀ q, q ≠ 49 → B q = A q := fun q hq => by rw [← hB, sr_ne hq]
  obtain ⟨T1, w, b, T2, T3, T4, T5, T6, T7, T8, T9, T10, T11⟩ := l_tf (N := N) (t := n) ok (by omega) (by omega) hn12 14 0 0 79993 0 B (Nat.zero_le _) (by omega) (by decide) (fun q hq => by rw [Nat.zero_testBit] at hq; exact absurd hq (by decide)) (by rw [B49, pk_un (by decide), pk_un (by decide), pk_us]) (by rw [B49, pk_un (by decide), pk_us]; rfl) (by rw [B49, pk_us]; rfl) (by decide) (by decide) ⟨_, by rw [Bq 50 (by decide)]; exact hlA⟩ (by
    refine ⟨by rw [Bq _ (by decide)]; exact f2, fun j hj f hf => ?_⟩
    rw [Bq _ (by omega)]
    have := f3 j hj f hf
    rw [show 52 + 10 * 0 + 2 + j = 52 + 2 + j by omega, this, sr_ne (by omega), show 3 + 2 + j = 1 + 4 + j by omega]
    exact hs j hj f hf)
  have T1' : p_tf N 14 0 0 B := T1
  have eG : g_tf N 14 (nI 0) (nI 0) B = g_tf N 14 0 0 B := rfl
  rw [eG] at T2 T3 T4 T7 T8
  generalize g_tf N 14 0 0 B = G at *
  have hall : ∀ v, v < 4096 → lex w b (patW M n v) v := fun v hv => T10 v hv (fun j hj => absurd hj (Nat.not_lt_zero _))
  have w0 : w < 79993 := by
    have h1 := hall 0 (by decide)
    rw [patW_FD] at h1
    have h2 := FD_lt ok 0 n
    unfold lex at h1
    omega
  have hwb : w = patW M n b := by
    rcases T11 with ⟨x, _⟩ | x
    · omega
    · exact x
  have hbs : (bs (patW M n) 4095).1 = b := bs_arg (by omega) (fun v hv => by rw [← hwb]; exact hall v (by omega))
  have Gq : ∀ q, q ≠ 49 → q ≠ 50 → (q < 52 ∨ 182 ≤ q) → G q = τ q := fun q h1 h2 h3 => by
    rw [T8 q h1 h2 (by omega), Bq q h1, f1 q (by omega), sr_ne h2]
  obtain ⟨b1, ⟨Y, b2⟩, b3⟩ := ml_lsa0 (N := N) (p := 3) (V := 4096) (n := n) (B := 80000) (G := patW M n) (τ := G) (by decide) (by decide) (by decide) (by omega) (by decide) (fun v hv => by rw [patW_FD]; have := FD_lt ok v n; omega) (fun v hv Y => by
    have okv := okT_mU (j := 3) (v := v) ok (by decide) (by decide) (by decide) hv
    obtain ⟨c1, c2, c3⟩ := m_strBehind (N := N) (n := n) (τ := thk G Y 3 (nI v)) okv (by omega) (by omega) (by omega) (by rw [thk_191, Gq 191 (by decide) (by decide) (by decide)]; exact rowT_mU row)
    refine ⟨c1, ⟨_, by rw [c2, thk_193]⟩, c3⟩)
  have b1' : f_X9_leastFor N 3 4096 (-1) (nI n) G = nI b := by
    rw [← hbs]
    exact b1
  have b2' : g_X9_leastFor N 3 4096 (-1) (nI n) G = _ := b2
  refine ⟨⟨⟨vp_in_nI (n := 0) (N := 13) (by decide) (by decide), f4, T1', trivial⟩, trivial⟩, ⟨b3, trivial⟩, T3.trans b1'.symm, ?_⟩
  rw [b2']
  refine Inv_same hI hc (fun k hk => ?_)
  unfold keepC at hk
  rw [sr_ne (by omega), Gq k (by omega) (by omega) (by omega)]
