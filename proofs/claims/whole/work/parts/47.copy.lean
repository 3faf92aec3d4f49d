/-! ===== the calls: copy, feed ===== -/
theorem sub_lt {z a b : Nat} (hz : z ≤ 40) (ha : a < 2 ^ 31) (hb : b < 2 ^ 31) : (nI z - nI b : Int32) < nI a ↔ z < a + b := by
  have e : (nI z - nI b : Int32).toInt = (z : Int) - b := by
    have h1 : ((z : Int) - b).bmod (2 ^ 32) = (z : Int) - b := by rw [Int.bmod_eq_of_le (by omega) (by omega)]
    rw [Int32.toInt_sub, nI_toInt (by omega), nI_toInt hb, h1]
  rw [Int32.lt_iff_toInt_lt, e, nI_toInt ha]
  omega
theorem cmp_gt {z a b : Nat} (hz : z ≤ 40) (ha : a < 2 ^ 31) (hb : b < 2 ^ 31) : (0 : Int32) < lg_cmp ((nI a).toInt64 + (nI b).toInt64) ((nI z).toInt64) ↔ z < a + b := by
  rw [lg_cmp_gt, nI_l ha, nI_l hb, nI_l (by omega), lN_add, pk_lLT (by omega) (by omega)]
theorem cmp_le {z a b : Nat} (hz : z ≤ 40) (ha : a < 2 ^ 31) (hb : b < 2 ^ 31) : lg_cmp ((nI a).toInt64 + (nI b).toInt64) ((nI z).toInt64) ≤ (0 : Int32) ↔ a + b ≤ z := by
  rw [lg_cmp_le, nI_l ha, nI_l hb, nI_l (by omega), lN_add, pk_lLE (by omega) (by omega)]
theorem part_no1 {t : Nat} {x y : Int32} {τ : tw_T} (h : x < 0) : f_X5_hasPart t x y τ = 0 := by unfold f_X5_hasPart; rw [if_pos h]
theorem part_no2 {t : Nat} {x y : Int32} {τ : tw_T} (h : y < 0) : f_X5_hasPart t x y τ = 0 := by
  unfold f_X5_hasPart
  by_cases c : x < 0
  · rw [if_pos c]
  · rw [if_neg c, if_pos h]
theorem part_iff {t z a b : Nat} {τ : tw_T} (h : τ t 2 = nI z) (hz : z ≤ 40) (ha : a < 2 ^ 31) (hb : b < 2 ^ 31) : f_X5_hasPart t (nI a) (nI b) τ = 0 ↔ z < a + b := by
  unfold f_X5_hasPart
  rw [h, if_neg (nI_pos ha), if_neg (nI_pos hb)]
  by_cases c : z < a + b
  · rw [if_pos ((sub_lt hz ha hb).mpr c)]; simp [c]
  · rw [if_neg (fun q => c ((sub_lt hz ha hb).mp q))]; simp [c]
theorem ml_cp2 {N t d b : Nat} {x1 x2 : Int32} (ht : t < 4) (hd : d + b ≤ 40) : ∀ e i fuel (τ : tw_T), i + e = b → e < fuel →
    lf_X9_copy_165 N fuel x1 x2 (nI t) (nI d) (nI b) (nI i) τ = nI b ∧ lg_X9_copy_165 N fuel x1 x2 (nI t) (nI d) (nI b) (nI i) τ = tw_sr τ 200 (fun j => if 40 * t + d + i ≤ j ∧ j < 40 * t + d + b then τ 201 (j - (40 * t + d)) else τ 200 j) ∧ lo_X9_copy_165 N fuel x1 x2 (nI t) (nI d) (nI b) (nI i) τ := by
  intro e
  induction e with
  | zero =>
    intro i fuel τ hi hf
    obtain ⟨u, rfl⟩ : ∃ u, fuel = u + 1 := ⟨fuel - 1, by omega⟩
    have e : i = b := by omega
    subst e
    have hle : nI i ≤ nI i := nI_le (Nat.le_refl i) (by omega)
    rw [lf_X9_copy_165, lg_X9_copy_165, lo_X9_copy_165, if_pos hle, if_pos hle, if_pos hle]
    refine ⟨rfl, ?_, trivial⟩
    have : (fun j => if 40 * t + d + i ≤ j ∧ j < 40 * t + d + i then τ 201 (j - (40 * t + d)) else τ 200 j) = τ 200 := by
      funext j
      rw [if_neg (by omega)]
    rw [this, sr_id]
  | succ e ih =>
    intro i fuel τ hi hf
    obtain ⟨u, rfl⟩ : ∃ u, fuel = u + 1 := ⟨fuel - 1, by omega⟩
    have hgt := nI_ge (show i < b by omega) (show b < 2 ^ 31 by omega)
    have ei : (nI i).toNatClampNeg = i := nI_clamp (by omega)
    have e40 : (40 : Int32) * nI t + nI d + nI i = nI (40 * t + d + i) := by rw [show (40 : Int32) = nI 40 from rfl, pk_mul, nI_add, nI_add]
    rw [lf_X9_copy_165, lg_X9_copy_165, lo_X9_copy_165, if_neg hgt, if_neg hgt, if_neg hgt, nI_1, e40, ei, nI_clamp (by omega)]
    obtain ⟨a1, a2, a3⟩ := ih (i + 1) u (tw_sr τ 200 (upd (τ 200) (40 * t + d + i) (τ 201 i))) (by omega) (by omega)
    refine ⟨a1, ?_, vp_in_nI (by omega) (by decide), vp_in_nI (by omega) (by decide), a3⟩
    rw [a2, sr_sr, sr_self, sr_ne (by decide)]
    congr 1
    funext j
    by_cases c : j = 40 * t + d + i
    · rw [c, if_neg (by omega), pk_us, if_pos (by omega), show 40 * t + d + i - (40 * t + d) = i by omega]
    · rw [pk_un c]
      by_cases q : 40 * t + d + i ≤ j ∧ j < 40 * t + d + b
      · rw [if_pos q, if_pos (by omega)]
      · rw [if_neg q, if_neg (by omega)]
theorem ml_cp1 {N s a t d b : Nat} (hs : s < 4) (ht : t < 4) (ha : a + b ≤ 40) (hd : d + b ≤ 40) (hN : 41 ≤ N) : ∀ e i fuel (τ : tw_T), i + e = b → e < fuel →
    lf_X9_copy_128 N fuel (nI s) (nI a) (nI t) (nI d) (nI b) (nI i) τ = nI b ∧
    (∃ Y, (∀ j, j < b → Y j = if i ≤ j then τ 200 (40 * s + a + j) else τ 201 j) ∧ lg_X9_copy_128 N fuel (nI s) (nI a) (nI t) (nI d) (nI b) (nI i) τ = tw_sr (tw_sr τ 201 Y) 200 (fun j => if 40 * t + d ≤ j ∧ j < 40 * t + d + b then Y (j - (40 * t + d)) else τ 200 j)) ∧
    lo_X9_copy_128 N fuel (nI s) (nI a) (nI t) (nI d) (nI b) (nI i) τ := by
  intro e
  induction e with
  | zero =>
    intro i fuel τ hi hf
    obtain ⟨u, rfl⟩ : ∃ u, fuel = u + 1 := ⟨fuel - 1, by omega⟩
    have e : i = b := by omega
    subst e
    have hle : nI i ≤ nI i := nI_le (Nat.le_refl i) (by omega)
    rw [lf_X9_copy_128, lg_X9_copy_128, lo_X9_copy_128, if_pos hle, if_pos hle, if_pos hle]
    obtain ⟨b1, b2, b3⟩ := ml_cp2 (N := N) (x1 := nI s) (x2 := nI a) ht hd i 0 N τ (by omega) (by omega)
    refine ⟨b1, ⟨τ 201, fun j hj => ?_, ?_⟩, b3⟩
    · rw [if_neg (by omega)]
    · rw [sr_id]
      exact b2
  | succ e ih =>
    intro i fuel τ hi hf
    obtain ⟨u, rfl⟩ : ∃ u, fuel = u + 1 := ⟨fuel - 1, by omega⟩
    have hgt := nI_ge (show i < b by omega) (show b < 2 ^ 31 by omega)
    have ei : (nI i).toNatClampNeg = i := nI_clamp (by omega)
    have e40 : (40 : Int32) * nI s + nI a + nI i = nI (40 * s + a + i) := by rw [show (40 : Int32) = nI 40 from rfl, pk_mul, nI_add, nI_add]
    rw [lf_X9_copy_128, lg_X9_copy_128, lo_X9_copy_128, if_neg hgt, if_neg hgt, if_neg hgt, nI_1, e40, ei, nI_clamp (by omega)]
    obtain ⟨a1, ⟨Y, a2, a3⟩, a4⟩ := ih (i + 1) u (tw_sr τ 201 (upd (τ 201) i (τ 200 (40 * s + a + i)))) (by omega) (by omega)
    refine ⟨a1, ⟨Y, fun j hj => ?_, ?_⟩, vp_in_nI (by omega) (by decide), vp_in_nI (by omega) (by decide), a4⟩
    · rw [a2 j hj, sr_self, sr_ne (by decide)]
      by_cases c : j = i
      · rw [c, if_neg (by omega), pk_us, if_pos (Nat.le_refl i)]
      · rw [pk_un c]
        by_cases q : i ≤ j
        · rw [if_pos q, if_pos (by omega)]
        · rw [if_neg q, if_neg (by omega)]
    · rw [a3, sr_sr, sr_ne (by decide)]
theorem copy_fin {c s a t d b : Nat} {τ : tw_T} {Y : Nat → Int32} (hI : Inv c τ) (hc : c < 512) (hs : s < 4) (ht : t < 4) (ha : a + b ≤ 40) (hd : d + b ≤ 40) (hY : ∀ j, j < b → Y j = τ 200 (40 * s + a + j)) :
    Inv (c + 1) (tw_sr (tw_sr (tw_sr τ (182 + 2 * t + 1) (va_cpy (τ (182 + 2 * s + 1)) (τ (182 + 2 * t + 1)) a d b)) 201 Y) 200 (fun j => if 40 * t + d ≤ j ∧ j < 40 * t + d + b then Y (j - (40 * t + d)) else τ 200 j)) := by
  refine Inv_sheet hI hc (fun k h1 h2 h3 h4 h5 => by rw [sr_ne (by omega), sr_ne (by omega), sr_ne (by omega)]) (fun w hw => ?_)
  obtain ⟨i1, i2, i3, i4, i5⟩ := hI.2.2.2.2.1 w hw
  have js := (hI.2.2.2.2.1 s hs).2.2.2.2
  have Tq : ∀ q, q < 198 → q ≠ 182 + 2 * t + 1 → (tw_sr (tw_sr (tw_sr τ (182 + 2 * t + 1) (va_cpy (τ (182 + 2 * s + 1)) (τ (182 + 2 * t + 1)) a d b)) 201 Y) 200 (fun j => if 40 * t + d ≤ j ∧ j < 40 * t + d + b then Y (j - (40 * t + d)) else τ 200 j)) q = τ q := fun q h1 h2 => by rw [sr_ne (by omega), sr_ne (by omega), sr_ne h2]
  have Tr : ∀ q, q = 198 ∨ q = 199 → (tw_sr (tw_sr (tw_sr τ (182 + 2 * t + 1) (va_cpy (τ (182 + 2 * s + 1)) (τ (182 + 2 * t + 1)) a d b)) 201 Y) 200 (fun j => if 40 * t + d ≤ j ∧ j < 40 * t + d + b then Y (j - (40 * t + d)) else τ 200 j)) q = τ q := fun q h1 => by rw [sr_ne (by omega), sr_ne (by omega), sr_ne (by omega)]
  rw [Tr 198 (Or.inl rfl), Tr 199 (Or.inr rfl), Tq (182 + 2 * w) (by omega) (by omega), sr_self]
  refine ⟨i1, i2, i3, i4, fun j hj => ?_⟩
  by_cases e : w = t
  · subst e
    rw [sr_ne (by omega), sr_ne (by omega), sr_self]
    by_cases q : d ≤ j ∧ j < d + b
    · rw [pk_cpy_in q.1 q.2, js _ (by omega)]
      show _ = if _ then _ else _
      rw [if_pos (by omega), hY _ (by omega), show 40 * w + j - (40 * w + d) = j - d by omega, show 40 * s + (a + (j - d)) = 40 * s + a + (j - d) by omega]
    · rw [pk_cpy_out (by omega)]
      show _ = if _ then _ else _
      rw [if_neg (by omega)]
      exact i5 j hj
  · rw [sr_ne (by omega), sr_ne (by omega), sr_ne (by omega)]
    show _ = if _ then _ else _
    rw [if_neg (by omega)]
    exact i5 j hj
theorem st_copy {c N : Nat} {τ : tw_T} (hI : Inv c τ) (hc : c < 512) (hN : 5000 ≤ N) (x1 x2 x3 x4 x5 : Int32) : p_X8_copy x1 x2 x3 x4 x5 τ ∧ p_X9_copy N x1 x2 x3 x4 x5 (g_X8_copy x1 x2 x3 x4 x5 τ) ∧ f_X8_copy x1 x2 x3 x4 x5 τ = f_X9_copy N x1 x2 x3 x4 x5 (g_X8_copy x1 x2 x3 x4 x5 τ) ∧ Inv (c + 1) (g_X9_copy N x1 x2 x3 x4 x5 (g_X8_copy x1 x2 x3 x4 x5 τ)) := by
  obtain ⟨q1, q2⟩ := fail_B hI hc
  obtain ⟨w1, w2⟩ := fail_M hI hc
  obtain ⟨k1, k2⟩ := fail_K hI hc
  have nB : ¬ (-1000001 : Int32) = 0 := by decide
  have nM : ¬ (-1000006 : Int32) = 0 := by decide
  unfold p_X8_copy p_X9_copy f_X9_copy g_X9_copy f_X8_copy g_X8_copy f_X8_troubleWithEither p_X8_troubleWithEither
  by_cases h1 : f_X8_within x1 0 3 τ = 0
  · have h19 : ∀ τ', f_X9_isSheet x1 τ' = 0 := fun τ' => h1
    simp only [h1, nB, h19, if_true, if_false]
    exact ⟨⟨trivial, trivial⟩, ⟨q1, trivial⟩, rfl, q2⟩
  have h19 : ∀ τ', ¬ f_X9_isSheet x1 τ' = 0 := fun τ' => h1
  by_cases h3 : f_X8_within x3 0 3 τ = 0
  · have h39 : ∀ τ', f_X9_isSheet x3 τ' = 0 := fun τ' => h3
    simp only [h1, nB, h19, h3, h39, if_true, if_false]
    exact ⟨⟨trivial, trivial⟩, ⟨q1, trivial⟩, rfl, q2⟩
  have h39 : ∀ τ', ¬ f_X9_isSheet x3 τ' = 0 := fun τ' => h3
  obtain ⟨s, hs', rfl⟩ := w_of (n := 3) rfl (by decide) h1
  obtain ⟨t, ht', rfl⟩ := w_of (n := 3) rfl (by decide) h3
  have hs : s < 4 := by omega
  have ht : t < 4 := by omega
  have es : (nI s).toNatClampNeg = s := nI_clamp (by omega)
  have et : (nI t).toNatClampNeg = t := nI_clamp (by omega)
  have vs : vp_in (nI s) 4 := vp_in_nI hs (by decide)
  have vt : vp_in (nI t) 4 := vp_in_nI ht (by decide)
  obtain ⟨i1, i2, i3, ⟨z1, hz1, i4⟩, i5⟩ := hI.2.2.2.2.1 s hs
  obtain ⟨j1, j2, j3, ⟨z2, hz2, j4⟩, j5⟩ := hI.2.2.2.2.1 t ht
  have fd : ∀ F q, q ≠ 30 → g_X8_found F τ q = τ q := fun F q h => found_ne h
  by_cases m1 : τ 198 s = 0
  · have ms : ¬ f_X5_isMissing (182 + 2 * s) τ = 0 := by unfold f_X5_isMissing; rw [i1, if_pos m1]; decide
    simp only [h1, h3, es, et, ms, nM, h19, h39, fd _ 198 (by decide), m1, if_true, if_false]
    exact ⟨⟨⟨vs, trivial⟩, trivial⟩, ⟨vs, w1, trivial⟩, rfl, w2⟩
  have ms : f_X5_isMissing (182 + 2 * s) τ = 0 := by unfold f_X5_isMissing; rw [i1, if_neg m1]
  by_cases m2 : τ 198 t = 0
  · have mt : ¬ f_X5_isMissing (182 + 2 * t) τ = 0 := by unfold f_X5_isMissing; rw [j1, if_pos m2]; decide
    simp only [h1, h3, es, et, ms, mt, nM, h19, h39, fd _ 198 (by decide), m1, m2, if_true, if_false]
    exact ⟨⟨⟨vs, vt, trivial⟩, trivial⟩, ⟨vs, vt, w1, trivial⟩, rfl, w2⟩
  have mt : f_X5_isMissing (182 + 2 * t) τ = 0 := by unfold f_X5_isMissing; rw [j1, if_neg m2]
  by_cases e : τ 198 s = τ 198 t
  · simp only [h1, h3, es, et, ms, mt, h19, h39, i1, j1, e, m2, if_true, if_false]
    -- the fields are in range, or not
    by_cases good : ∃ a b d, x2 = nI a ∧ x5 = nI b ∧ x4 = nI d ∧ a < 2 ^ 31 ∧ b < 2 ^ 31 ∧ d < 2 ^ 31 ∧ a + b ≤ z1 ∧ d + b ≤ z2
    · obtain ⟨a, b, d, rfl, rfl, rfl, a31, b31, d31, g1, g2⟩ := good
      have p1 : ¬ f_X5_hasPart (182 + 2 * s) (nI a) (nI b) τ = 0 := by rw [part_iff (i2.trans i4) hz1 a31 b31]; omega
      have p2 : ¬ f_X5_hasPart (182 + 2 * t) (nI d) (nI b) τ = 0 := by rw [part_iff (j2.trans j4) hz2 d31 b31]; omega
      have ea : (nI a).toNatClampNeg = a := nI_clamp a31
      have eb : (nI b).toNatClampNeg = b := nI_clamp b31
      have ed : (nI d).toNatClampNeg = d := nI_clamp d31
      have na : ¬ nI a < 0 := nI_pos a31
      have nb : ¬ nI b < 0 := nI_pos b31
      have nd : ¬ nI d < 0 := nI_pos d31
      simp only [p1, p2, ea, eb, ed, if_false]
      generalize hG : tw_sr τ (182 + 2 * t + 1) (va_cpy (τ (182 + 2 * s + 1)) (τ (182 + 2 * t + 1)) a d b) = G at *
      have Gq : ∀ q, 190 ≤ q → G q = τ q := fun q hq => by rw [← hG, sr_ne (by omega)]
      have c1 : ¬ (0 : Int32) < lg_cmp ((nI a).toInt64 + (nI b).toInt64) ((nI z1).toInt64) := by rw [cmp_gt hz1 a31 b31]; omega
      have c2 : lg_cmp ((nI d).toInt64 + (nI b).toInt64) ((nI z2).toInt64) ≤ (0 : Int32) := by rw [cmp_le hz2 d31 b31]; omega
      simp only [Gq 198 (by decide), Gq 199 (by decide), e, m2, na, nb, nd, i4, j4, c1, c2, if_true, if_false]
      obtain ⟨b1, ⟨Y, b2, b3⟩, b4⟩ := ml_cp1 (N := N) (s := s) (a := a) (t := t) (d := d) (b := b) hs ht (by omega) (by omega) (by omega) b 0 N G (by omega) (by omega)
      refine ⟨⟨⟨vs, vt, trivial⟩, vs, vt, vs, vt, vs, vt, ⟨id, id, id, by omega, by omega⟩, trivial⟩, ⟨vs, vt, vs, vt, vs, vt, b4⟩, b1.symm, ?_⟩
      show Inv (c + 1) (lg_X9_copy_128 N N (nI s) (nI a) (nI t) (nI d) (nI b) (nI 0) G)
      rw [b3, ← hG, sr_ne (show 200 ≠ 182 + 2 * t + 1 by omega)]
      refine copy_fin hI hc hs ht (by omega) (by omega) (fun j hj => ?_)
      rw [b2 j hj, if_pos (Nat.zero_le j), Gq 200 (by decide)]
    · -- something is out of range: BEYOND on both sides
      have bad8 : f_X5_hasPart (182 + 2 * s) x2 x5 τ = 0 ∨ f_X5_hasPart (182 + 2 * t) x4 x5 τ = 0 := by
        by_cases n2 : x2 < 0
        · exact Or.inl (part_no1 n2)
        by_cases n5 : x5 < 0
        · exact Or.inl (part_no2 n5)
        by_cases n4 : x4 < 0
        · exact Or.inr (part_no1 n4)
        obtain ⟨a, a31, rfl⟩ := nI_of n2
        obtain ⟨b, b31, rfl⟩ := nI_of n5
        obtain ⟨d, d31, rfl⟩ := nI_of n4
        by_cases g1 : a + b ≤ z1
        · right
          rw [part_iff (j2.trans j4) hz2 d31 b31]
          apply Classical.byContradiction
          intro g2
          exact good ⟨a, b, d, rfl, rfl, rfl, a31, b31, d31, g1, by omega⟩
        · left
          rw [part_iff (i2.trans i4) hz1 a31 b31]
          omega
      have r8 : ∀ (α : Type) (x y : α), (if f_X5_hasPart (182 + 2 * s) x2 x5 τ = 0 then x else if f_X5_hasPart (182 + 2 * t) x4 x5 τ = 0 then x else y) = x := by
        intro α x y
        rcases bad8 with q | q
        · rw [if_pos q]
        · rw [q]; simp
      rw [r8, r8]
      have P8 : (if f_X5_hasPart (182 + 2 * s) x2 x5 τ = 0 then True else (vp_in (nI t) 4 ∧ (if f_X5_hasPart (182 + 2 * t) x4 x5 τ = 0 then True else (vp_in (nI s) 4 ∧ (vp_in (nI t) 4 ∧ ((¬ x2 < 0 ∧ ¬ x4 < 0 ∧ ¬ x5 < 0 ∧ x2.toNatClampNeg + x5.toNatClampNeg ≤ 40 ∧ x4.toNatClampNeg + x5.toNatClampNeg ≤ 40) ∧ True)))))) := by
        rcases bad8 with q | q
        · rw [if_pos q]; trivial
        · rw [if_pos q]; split
          · trivial
          · exact ⟨vt, trivial⟩
      simp only [fd _ 198 (by decide), fd _ 199 (by decide), e, m2, i4, j4, if_true, if_false]
      have bad9 : x2 < 0 ∨ x4 < 0 ∨ x5 < 0 ∨ (0 : Int32) < lg_cmp (x2.toInt64 + x5.toInt64) ((nI z1).toInt64) ∨ ¬ lg_cmp (x4.toInt64 + x5.toInt64) ((nI z2).toInt64) ≤ (0 : Int32) := by
        by_cases n2 : x2 < 0
        · exact Or.inl n2
        by_cases n4 : x4 < 0
        · exact Or.inr (Or.inl n4)
        by_cases n5 : x5 < 0
        · exact Or.inr (Or.inr (Or.inl n5))
        obtain ⟨a, a31, rfl⟩ := nI_of n2
        obtain ⟨b, b31, rfl⟩ := nI_of n5
        obtain ⟨d, d31, rfl⟩ := nI_of n4
        right; right; right
        rw [cmp_gt hz1 a31 b31, cmp_le hz2 d31 b31]
        apply Classical.byContradiction
        intro g2
        exact good ⟨a, b, d, rfl, rfl, rfl, a31, b31, d31, by omega, by omega⟩
      have r9 : ∀ (α : Type) (x y : α), (if x2 < 0 then x else if x4 < 0 then x else if x5 < 0 then x else if (0 : Int32) < lg_cmp (x2.toInt64 + x5.toInt64) ((nI z1).toInt64) then x else if lg_cmp (x4.toInt64 + x5.toInt64) ((nI z2).toInt64) ≤ (0 : Int32) then y else x) = x := by
        intro α x y
        rcases bad9 with q | q | q | q | q <;> simp [q]
      rw [r9, r9]
      refine ⟨⟨⟨vs, vt, trivial⟩, vs, vt, vs, P8⟩, ?_, rfl, q2⟩
      refine ⟨vs, vt, vs, vt, ?_⟩
      split
      · exact ⟨q1, trivial⟩
      split
      · exact ⟨q1, trivial⟩
      split
      · exact ⟨q1, trivial⟩
      refine ⟨vs, ?_⟩
      split
      · exact ⟨q1, trivial⟩
      refine ⟨vt, ?_⟩
      split
      · rename_i n2 n4 n5 g1 g2
        rcases bad9 with q | q | q | q | q
        · exact absurd q n2
        · exact absurd q n4
        · exact absurd q n5
        · exact absurd q g1
        · exact absurd g2 q
      · exact ⟨q1, trivial⟩
  · simp only [h1, h3, es, et, ms, mt, h19, h39, i1, j1, e, m1, m2, fd _ 198 (by decide), if_true, if_false]
    exact ⟨⟨⟨vs, vt, trivial⟩, vs, vt, trivial⟩, ⟨vs, vt, vs, vt, k1, trivial⟩, rfl, k2⟩
