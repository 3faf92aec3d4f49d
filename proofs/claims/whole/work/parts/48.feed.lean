/-! ===== the call: feed (rows on bits begin as laws/BITS.to-paste) ===== -/
def bt (x : Int32) (i : Nat) : Bool := x.toBitVec.getLsbD i
theorem b_ext {x y : Int32} (h : ∀ i, i < 32 → bt x i = bt y i) : x = y := Int32.toBitVec_inj.mp (BitVec.eq_of_getLsbD_eq (fun i hi => h i hi))
theorem b_and (x y : Int32) (i : Nat) : bt (x &&& y) i = (bt x i && bt y i) := by unfold bt; rw [Int32.toBitVec_and, BitVec.getLsbD_and]
theorem b_big {x : Int32} {i : Nat} (h : 32 ≤ i) : bt x i = false := BitVec.getLsbD_of_ge _ _ h
theorem b_255 (i : Nat) : bt 255 i = decide (i < 8) := by
  rcases Nat.lt_or_ge i 32 with h | h
  · exact (by decide +kernel : ∀ i, i < 32 → bt 255 i = decide (i < 8)) i h
  · rw [b_big h, decide_eq_false (by omega)]
theorem s_u : ∀ n, n < 32 → (((nI n).toUInt32 &&& Int32.toUInt32 31).toBitVec % 32).toNat = n := by decide +kernel
theorem b_ushr (n : Nat) (hn : n < 32) (x : Int32) (i : Nat) : bt ((x.toUInt32 >>> ((nI n).toUInt32 &&& Int32.toUInt32 31)).toInt32) i = bt x (n + i) := by
  show (x.toUInt32 >>> ((nI n).toUInt32 &&& Int32.toUInt32 31)).toBitVec.getLsbD i = x.toUInt32.toBitVec.getLsbD (n + i)
  rw [UInt32.toBitVec_shiftRight]
  show (x.toUInt32.toBitVec >>> (((nI n).toUInt32 &&& Int32.toUInt32 31).toBitVec % 32).toNat).getLsbD i = _
  rw [s_u n hn, BitVec.getLsbD_ushiftRight]
theorem b_sshr (n : Nat) (hn : n < 32) (x : Int32) {i : Nat} (hi : i < 32) : bt (x >>> (nI n &&& 31)) i = if n + i < 32 then bt x (n + i) else bt x 31 := by
  unfold bt
  rw [Int32.toBitVec_shiftRight]
  show (x.toBitVec.sshiftRight ((nI n &&& 31).toBitVec.smod 32).toNat).getLsbD i = _
  rw [q_sl n hn, BitVec.getLsbD_sshiftRight, BitVec.msb_eq_getLsbD_last]
  simp [hi]
/-- byte k of a number -/
def by8 (x : Int32) (k : Nat) : Int32 := (x >>> (nI (8 * k) &&& 31)) &&& 255
theorem by8_u (x : Int32) {k : Nat} (hk : k < 4) : ((x.toUInt32 >>> ((8 * nI k : Int32).toUInt32 &&& Int32.toUInt32 31)).toInt32) &&& 255 = by8 x k := by
  have e : (8 * nI k : Int32) = nI (8 * k) := by rw [q_8, pk_mul]
  rw [e]
  apply b_ext
  intro i hi
  unfold by8
  rw [b_and, b_and, b_ushr _ (by omega), b_sshr _ (by omega) _ hi, b_255]
  by_cases c : i < 8
  · rw [if_pos (by omega)]
  · simp [c]
theorem by8_s (x : Int32) {k : Nat} : (x >>> ((8 * nI k : Int32) &&& 31)) &&& 255 = by8 x k := by
  have e : (8 * nI k : Int32) = nI (8 * k) := by rw [q_8, pk_mul]
  rw [e]
  rfl
theorem by8_lt (x : Int32) (k : Nat) : ∃ b, b < 256 ∧ by8 x k = nI b := by
  obtain ⟨j, hj, e⟩ := pk_andE (x >>> (nI (8 * k) &&& 31)) (m := 255) 8 (by decide)
  exact ⟨j, hj, e⟩
theorem dec_m1 (d : Nat) : (nI (d + 1) - 1 : Int32) + (-1) = nI d - 1 := by
  rw [nI_pred]
  exact (Int32.sub_eq_add_neg (nI d) 1).symm
theorem l_feed {N : Nat} {x1 x2 : Int32} : ∀ d fuel s (τ : tw_T), d ≤ 4 → d < fuel → s + d ≤ 120 → τ 27 1 = nI s →
    lf_X8_feed_41 N fuel x1 x2 (nI d - 1) τ = nI (s + d) ∧ (∀ q, q ≠ 27 → q ≠ 28 → lg_X8_feed_41 N fuel x1 x2 (nI d - 1) τ q = τ q) ∧ lg_X8_feed_41 N fuel x1 x2 (nI d - 1) τ 27 1 = nI (s + d) ∧ (∀ j, lg_X8_feed_41 N fuel x1 x2 (nI d - 1) τ 28 j = if s ≤ j ∧ j < s + d then by8 x1 (d - 1 - (j - s)) else τ 28 j) ∧ lo_X8_feed_41 N fuel x1 x2 (nI d - 1) τ := by
  intro d
  induction d with
  | zero =>
    intro fuel s τ hd hf hs h
    obtain ⟨u, rfl⟩ : ∃ u, fuel = u + 1 := ⟨fuel - 1, by omega⟩
    have hlt : (nI 0 - 1 : Int32) < 0 := by decide
    rw [lf_X8_feed_41, lg_X8_feed_41, lo_X8_feed_41, if_pos hlt, if_pos hlt, if_pos hlt]
    exact ⟨h, fun _ _ _ => rfl, h, fun j => (if_neg (show ¬ (s ≤ j ∧ j < s + 0) by omega)).symm, trivial⟩
  | succ d ih =>
    intro fuel s τ hd hf hs h
    obtain ⟨u, rfl⟩ : ∃ u, fuel = u + 1 := ⟨fuel - 1, by omega⟩
    have hlt : ¬ (nI (d + 1) - 1 : Int32) < 0 := by rw [nI_pred]; exact nI_pos (by omega)
    have hfull : ¬ (120 : Int32) ≤ nI s := nI_ge (a := s) (b := 120) (by omega) (by decide)
    rw [lf_X8_feed_41, lg_X8_feed_41, lo_X8_feed_41, if_neg hlt, if_neg hlt, if_neg hlt, dec_m1, nI_pred, by8_u x1 (by omega)]
    have ha : g_X7_add (by8 x1 d) τ = tw_sr (tw_sr τ 28 (upd (τ 28) s (by8 x1 d))) 27 (upd (τ 27) 1 (nI (s + 1))) ∧ p_X7_add (by8 x1 d) τ := by
      unfold g_X7_add p_X7_add
      rw [h, if_neg hfull, if_neg hfull, nI_clamp (by omega), sr_ne (by decide), h, nI_1]
      exact ⟨rfl, vp_in_nI (by omega) (by decide), trivial⟩
    obtain ⟨a1, a2⟩ := ha
    rw [a1]
    obtain ⟨b1, b2, b3, b4, b5⟩ := ih u (s + 1) (tw_sr (tw_sr τ 28 (upd (τ 28) s (by8 x1 d))) 27 (upd (τ 27) 1 (nI (s + 1)))) (by omega) (by omega) (by omega) (by rw [sr_self, pk_us])
    rw [show s + 1 + d = s + (d + 1) by omega] at b1 b3
    refine ⟨b1, fun q h1 h2 => by rw [b2 q h1 h2, sr_ne h1, sr_ne h2], b3, fun j => ?_, a2, b5⟩
    rw [b4 j, sr_ne (by decide), sr_self]
    by_cases c : j = s
    · subst c
      rw [if_neg (by omega), pk_us, if_pos (by omega), show d + 1 - 1 - (j - j) = d by omega]
    · rw [pk_un c]
      by_cases q : s + 1 ≤ j ∧ j < s + 1 + d
      · rw [if_pos q, if_pos (by omega), show d + 1 - 1 - (j - s) = d - 1 - (j - (s + 1)) by omega]
      · rw [if_neg q, if_neg (by omega)]
theorem ml_feed {N : Nat} {x1 x2 : Int32} : ∀ d fuel s (τ : tw_T), d ≤ 4 → d < fuel → s + d ≤ 120 → τ 190 6 = nI s →
    lf_X9_feed_38 N fuel x1 x2 (nI d - 1) τ = nI (s + d) ∧ (∀ q, q ≠ 190 → q ≠ 195 → lg_X9_feed_38 N fuel x1 x2 (nI d - 1) τ q = τ q) ∧ lg_X9_feed_38 N fuel x1 x2 (nI d - 1) τ 190 6 = nI (s + d) ∧ (∀ j, j ≠ 6 → lg_X9_feed_38 N fuel x1 x2 (nI d - 1) τ 190 j = τ 190 j) ∧ (∀ j, lg_X9_feed_38 N fuel x1 x2 (nI d - 1) τ 195 j = if s ≤ j ∧ j < s + d then by8 x1 (d - 1 - (j - s)) else τ 195 j) ∧ lo_X9_feed_38 N fuel x1 x2 (nI d - 1) τ := by
  intro d
  induction d with
  | zero =>
    intro fuel s τ hd hf hs h
    obtain ⟨u, rfl⟩ : ∃ u, fuel = u + 1 := ⟨fuel - 1, by omega⟩
    have hlt : (nI 0 - 1 : Int32) < 0 := by decide
    rw [lf_X9_feed_38, lg_X9_feed_38, lo_X9_feed_38, if_pos hlt, if_pos hlt, if_pos hlt]
    exact ⟨h, fun _ _ _ => rfl, h, fun _ _ => rfl, fun j => (if_neg (show ¬ (s ≤ j ∧ j < s + 0) by omega)).symm, trivial⟩
  | succ d ih =>
    intro fuel s τ hd hf hs h
    obtain ⟨u, rfl⟩ : ∃ u, fuel = u + 1 := ⟨fuel - 1, by omega⟩
    have hlt : ¬ (nI (d + 1) - 1 : Int32) < 0 := by rw [nI_pred]; exact nI_pos (by omega)
    rw [lf_X9_feed_38, lg_X9_feed_38, lo_X9_feed_38, if_neg hlt, if_neg hlt, if_neg hlt, dec_m1, nI_pred, by8_s x1, h, nI_clamp (by omega), sr_ne (show 190 ≠ 195 by decide), h, nI_1]
    obtain ⟨b1, b2, b3, b6, b4, b5⟩ := ih u (s + 1) (tw_sr (tw_sr τ 195 (upd (τ 195) s (by8 x1 d))) 190 (upd (τ 190) 6 (nI (s + 1)))) (by omega) (by omega) (by omega) (by rw [sr_self, pk_us])
    rw [show s + 1 + d = s + (d + 1) by omega] at b1 b3
    refine ⟨b1, fun q h1 h2 => by rw [b2 q h1 h2, sr_ne h1, sr_ne h2], b3, fun j hj => by rw [b6 j hj, sr_self, pk_un hj], fun j => ?_, vp_in_nI (by omega) (by decide), b5⟩
    rw [b4 j, sr_ne (by decide), sr_self]
    by_cases c : j = s
    · subst c
      rw [if_neg (by omega), pk_us, if_pos (by omega), show d + 1 - 1 - (j - j) = d by omega]
    · rw [pk_un c]
      by_cases q : s + 1 ≤ j ∧ j < s + 1 + d
      · rw [if_pos q, if_pos (by omega), show d + 1 - 1 - (j - s) = d - 1 - (j - (s + 1)) by omega]
      · rw [if_neg q, if_neg (by omega)]
/-- only the tape has changed -/
theorem Inv_tape {c : Nat} {τ τ' : tw_T} (hI : Inv c τ) (hc : c < 512) (hk : ∀ k, k ≠ 27 → k ≠ 28 → k ≠ 190 → k ≠ 195 → k ≠ 197 → τ' k = τ k) (h3 : τ' 190 3 = τ 190 3) (hs : I_tape τ') : Inv (c + 1) τ' := by
  obtain ⟨h0, h1, h2, h3', h4, h5, h6⟩ := hI
  have d : ∀ k, (k < 27 ∨ (28 < k ∧ k < 190) ∨ k = 191 ∨ k = 192 ∨ k = 194 ∨ (197 < k)) → τ' k = τ k := fun k h => hk k (by omega) (by omega) (by omega) (by omega) (by omega)
  exact ⟨by omega, I_sea_congr (fun k a b => d k (by omega)) (d 191 (by decide)) (I_sea_mono h1), I_kept_congr (by rw [d 0 (by decide)]) h3 (fun k a b => d k (by omega)) (d 192 (by decide)) (I_kept_mono h2), hs, I_sheet_congr (fun k a b => d k (by omega)) (d 198 (by decide)) (d 199 (by decide)) (d 200 (by decide)) h4, I_fnd_congr (d 30 (by decide)) (d 194 (by decide)) h5, I_dem_congr (d 48 (by decide)) h6⟩
theorem st_feed {c N : Nat} {τ : tw_T} (hI : Inv c τ) (hc : c < 512) (hN : 5000 ≤ N) (x1 x2 : Int32) : p_X8_feed N x1 x2 τ ∧ p_X9_feed N x1 x2 (g_X8_feed N x1 x2 τ) ∧ f_X8_feed N x1 x2 τ = f_X9_feed N x1 x2 (g_X8_feed N x1 x2 τ) ∧ Inv (c + 1) (g_X9_feed N x1 x2 (g_X8_feed N x1 x2 τ)) := by
  obtain ⟨s, hs, t9, t8, tb⟩ := hI.2.2.2.1
  unfold p_X8_feed p_X9_feed f_X9_feed g_X9_feed f_X8_feed g_X8_feed
  by_cases h : f_X8_within x2 1 4 τ = 0
  · obtain ⟨q1, q2⟩ := fail_B hI hc
    have h9 : ∀ τ', f_X9_within x2 1 4 τ' = 0 := fun τ' => h
    simp only [h, h9, if_true]
    exact ⟨trivial, ⟨q1, trivial⟩, rfl, q2⟩
  have h9 : ∀ τ', ¬ f_X9_within x2 1 4 τ' = 0 := fun τ' => h
  obtain ⟨d, hd1, hd, rfl⟩ := w1_of (n := 4) rfl (by decide) h
  by_cases hf : s + d ≤ 120
  · have hle : nI s + nI d ≤ (120 : Int32) := by rw [nI_add]; exact nI_le (a := s + d) (b := 120) hf (by decide)
    obtain ⟨a1, a2, a3, a4, a5⟩ := l_feed (N := N) (x1 := x1) (x2 := nI d) d N s τ hd (by omega) hf t8
    simp only [h, h9, t8, hle, if_true, if_false]
    generalize hG : lg_X8_feed_41 N N x1 (nI d) (nI d - 1) τ = G at *
    have g190 : G 190 = τ 190 := a2 190 (by decide) (by decide)
    obtain ⟨b1, b2, b3, b6, b4, b5⟩ := ml_feed (N := N) (x1 := x1) (x2 := nI d) d N s G hd (by omega) hf (by rw [g190]; exact t9)
    simp only [g190, t9, hle, if_true]
    refine ⟨a5, b5, a1.trans b1.symm, ?_⟩
    refine Inv_tape hI hc (fun k h1 h2 h3 h4 h5 => by rw [b2 k h3 h4, a2 k h1 h2]) (by rw [b6 3 (by decide), g190]) ⟨s + d, hf, b3, ?_, fun j hj => ?_⟩
    · rw [b2 27 (by decide) (by decide)]; exact a3
    · rw [b2 28 (by decide) (by decide), a4 j, b4 j, a2 195 (by decide) (by decide)]
      by_cases q : s ≤ j ∧ j < s + d
      · simp only [q, and_self, if_true]
        exact ⟨trivial, by8_lt x1 _⟩
      · simp only [q, if_false]
        exact tb j (by omega)
  · obtain ⟨q1, q2⟩ := fail_F hI hc
    have hle : ¬ nI s + nI d ≤ (120 : Int32) := by rw [nI_add]; exact nI_ge (a := 120) (b := s + d) (by omega) (by omega)
    have t9' : (g_X8_found (-1000002) τ) 190 6 = nI s := by rw [found_ne (by decide)]; exact t9
    simp only [h, h9, t8, hle, t9', if_false]
    exact ⟨trivial, ⟨q1, trivial⟩, rfl, q2⟩
