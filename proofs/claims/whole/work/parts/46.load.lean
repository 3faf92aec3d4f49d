/-! ===== the call: load ===== -/
def ldN (g : Nat → Int32) (m : Nat) : Nat → Nat → Nat
  | 0, i => i
  | d + 1, i => if i < m ∧ ¬ f_X8_within (g i) 0 5 (fun _ _ => 0) = 0 then ldN g m d (i + 1) else i
theorem ldN_le (g : Nat → Int32) (m : Nat) : ∀ d i, i ≤ ldN g m d i ∧ ldN g m d i ≤ i + d ∧ ∀ k, i ≤ k → k < ldN g m d i → k < m ∧ ¬ f_X8_within (g k) 0 5 (fun _ _ => 0) = 0
  | 0, i => ⟨Nat.le_refl i, Nat.le_refl i, fun k h1 h2 => absurd h2 (Nat.not_lt.mpr h1)⟩
  | d + 1, i => by
    unfold ldN
    obtain ⟨h1, h2, h3⟩ := ldN_le g m d (i + 1)
    split
    · rename_i h
      refine ⟨by omega, by omega, fun k a b => ?_⟩
      by_cases e : k = i
      · subst e; exact h
      · exact h3 k (by omega) b
    · exact ⟨Nat.le_refl i, by omega, fun k a b => absurd b (by omega)⟩
theorem ship_lt {τ : tw_T} {m i : Nat} (hm : m ≤ 8) (hi : i < 2 ^ 31) : (f_X8_within (nI i) 0 (nI m - 1) τ = 0 ↔ ¬ i < m) := by
  rcases sh_or (nI i) hm with z | ⟨k, hk, e, z⟩
  · constructor
    · intro _ q
      have e1 : nI m - 1 = nI (m - 1) := pk_sub (a := m) (b := 1) (by omega)
      have := z τ
      rw [e1] at this
      exact w_in (by omega) (by omega) this
    · intro _; exact z τ
  · have := (nI_eq hi (by omega)).mp e
    constructor
    · intro q; exact absurd q (z τ)
    · intro q; omega
theorem l_load {N s n m : Nat} {x2 : Int32} {g : Nat → Int32} (hs : s < 4) (hn : n ≤ 40) (hm : m ≤ 8) : ∀ d i fuel (τ : tw_T), i + d = n → d < fuel → τ (182 + 2 * s) 2 = nI n → (∀ j, j < 40 → τ (182 + 2 * s + 1) j = g j) → τ 3 1 = nI m →
    lf_X8_load_18 N fuel (nI s) x2 (nI i) τ = nI (ldN g m d i) ∧ (∀ q, (q < 5 ∨ 13 ≤ q) → lg_X8_load_18 N fuel (nI s) x2 (nI i) τ q = τ q) ∧ (∀ k, k < 8 → lg_X8_load_18 N fuel (nI s) x2 (nI i) τ (5 + k) = if i ≤ k ∧ k < ldN g m d i then upd (τ (5 + k)) 3 (g k) else τ (5 + k)) ∧ lo_X8_load_18 N fuel (nI s) x2 (nI i) τ := by
  have es : (nI s).toNatClampNeg = s := nI_clamp (by omega)
  have hv : vp_in (nI s) 4 := vp_in_nI hs (by decide)
  intro d
  induction d with
  | zero =>
    intro i fuel τ hi hf h1 h2 h8
    obtain ⟨u, rfl⟩ : ∃ u, fuel = u + 1 := ⟨fuel - 1, by omega⟩
    have e : i = n := by omega
    subst e
    have hle : nI i ≤ nI i := nI_le (Nat.le_refl i) (by omega)
    rw [lf_X8_load_18, lg_X8_load_18, lo_X8_load_18, es, h1, if_pos hle, if_pos hle, if_pos hle]
    exact ⟨rfl, fun _ _ => rfl, fun k hk => (if_neg (show ¬ (i ≤ k ∧ k < i) by omega)).symm, hv, trivial⟩
  | succ d ih =>
    intro i fuel τ hi hf h1 h2 h8
    obtain ⟨u, rfl⟩ : ∃ u, fuel = u + 1 := ⟨fuel - 1, by omega⟩
    have him : i < n := by omega
    have hgt := nI_ge him (show n < 2 ^ 31 by omega)
    have ei : (nI i).toNatClampNeg = i := nI_clamp (by omega)
    have hsh : f_X8_isShip (nI i) τ = 0 ↔ ¬ i < m := by unfold f_X8_isShip; rw [h8]; exact ship_lt hm (by omega)
    rw [lf_X8_load_18, lg_X8_load_18, lo_X8_load_18, es, h1, ei, nI_1, h2 i (by omega), show 3 + 2 + i = 5 + i by omega]
    simp only [hgt, if_false]
    by_cases c : i < m
    · have cs : ¬ f_X8_isShip (nI i) τ = 0 := fun q => hsh.mp q c
      have hvi : vp_in (nI i) 8 := vp_in_nI (by omega) (by decide)
      have hvj : vp_in (nI i) 40 := vp_in_nI (by omega) (by decide)
      by_cases w : f_X8_within (g i) 0 5 τ = 0
      · have es2 : ldN g m (d + 1) i = i := if_neg (fun q => q.2 w)
        rw [es2]
        simp only [cs, w, if_true, if_false]
        refine ⟨trivial, fun _ _ => trivial, fun k hk => ?_, hv, hv, hvj, trivial⟩
        rw [if_neg (show ¬ (i ≤ k ∧ k < i) by omega)]
      · have es2 : ldN g m (d + 1) i = ldN g m d (i + 1) := if_pos ⟨c, w⟩
        rw [es2]
        simp only [cs, w, if_false]
        obtain ⟨a1, a2, a3, a4⟩ := ih (i + 1) u (tw_sr τ (5 + i) (upd (τ (5 + i)) 3 (g i))) (by omega) (by omega) (by rw [sr_ne (by omega)]; exact h1) (fun j hj => by rw [sr_ne (by omega)]; exact h2 j hj) (by rw [sr_ne (by omega)]; exact h8)
        refine ⟨a1, fun q hq => by rw [a2 q hq, sr_ne (by omega)], fun k hk => ?_, hv, hv, hvj, hvi, hv, hvj, a4⟩
        have l1 := (ldN_le g m d (i + 1)).1
        rw [a3 k hk]
        by_cases e : k = i
        · subst e
          rw [if_neg (by omega), sr_self, if_pos (by omega)]
        · rw [sr_ne (by omega)]
          by_cases q : i + 1 ≤ k ∧ k < ldN g m d (i + 1)
          · rw [if_pos q, if_pos (by omega)]
          · rw [if_neg q, if_neg (by omega)]
    · have cs : f_X8_isShip (nI i) τ = 0 := hsh.mpr c
      have es2 : ldN g m (d + 1) i = i := if_neg (fun q => c q.1)
      rw [es2]
      simp only [cs, if_true]
      refine ⟨trivial, fun _ _ => trivial, fun k hk => ?_, hv, trivial⟩
      rw [if_neg (show ¬ (i ≤ k ∧ k < i) by omega)]
theorem ml_load {N s n m : Nat} {g : Nat → Int32} (hs : s < 4) (hn : n ≤ 40) (hm : m ≤ 8) : ∀ d i fuel (τ : tw_T), i + d = n → d < fuel → τ 199 s = nI n → (∀ j, j < 40 → τ 200 (40 * s + j) = g j) → τ 191 1 = nI m →
    lf_X9_load_22 N fuel (nI s) (nI i) τ = nI (ldN g m d i) ∧ (∃ R, lg_X9_load_22 N fuel (nI s) (nI i) τ = tw_sr τ 191 R ∧ ∀ j, R j = if 17 + 7 * i ≤ j ∧ j < 17 + 7 * ldN g m d i ∧ (j - 17) % 7 = 3 then g ((j - 17) / 7) else τ 191 j) ∧ lo_X9_load_22 N fuel (nI s) (nI i) τ := by
  have es : (nI s).toNatClampNeg = s := nI_clamp (by omega)
  have hv : vp_in (nI s) 4 := vp_in_nI hs (by decide)
  intro d
  induction d with
  | zero =>
    intro i fuel τ hi hf h1 h2 h8
    obtain ⟨u, rfl⟩ : ∃ u, fuel = u + 1 := ⟨fuel - 1, by omega⟩
    have e : i = n := by omega
    subst e
    have hle : nI i ≤ nI i := nI_le (Nat.le_refl i) (by omega)
    rw [lf_X9_load_22, lg_X9_load_22, lo_X9_load_22, es, h1, if_pos hle, if_pos hle, if_pos hle]
    exact ⟨rfl, ⟨τ 191, (sr_id τ 191).symm, fun j => (if_neg (show ¬ (17 + 7 * i ≤ j ∧ j < 17 + 7 * i ∧ (j - 17) % 7 = 3) by omega)).symm⟩, hv, trivial⟩
  | succ d ih =>
    intro i fuel τ hi hf h1 h2 h8
    obtain ⟨u, rfl⟩ : ∃ u, fuel = u + 1 := ⟨fuel - 1, by omega⟩
    have him : i < n := by omega
    have hgt := nI_ge him (show n < 2 ^ 31 by omega)
    have e40 : (40 : Int32) * nI s + nI i = nI (40 * s + i) := by rw [show (40 : Int32) = nI 40 from rfl, pk_mul, nI_add]
    have e40' : (nI (40 * s + i)).toNatClampNeg = 40 * s + i := nI_clamp (by omega)
    have hvk : vp_in (nI (40 * s + i)) 160 := vp_in_nI (by omega) (by decide)
    have hsh : f_X9_isShip (nI i) τ = 0 ↔ ¬ i < m := by unfold f_X9_isShip; rw [h8]; exact ship_lt (τ := τ) hm (by omega)
    rw [lf_X9_load_22, lg_X9_load_22, lo_X9_load_22, es, h1, nI_1, e40, e40', h2 i (by omega)]
    simp only [hgt, if_false]
    by_cases c : i < m
    · have cs : ¬ f_X9_isShip (nI i) τ = 0 := fun q => hsh.mp q c
      have ea : f_X9_shipAt (nI i) 3 τ = nI (17 + 7 * i + 3) := m_at i 3 τ
      have ea' : (nI (17 + 7 * i + 3)).toNatClampNeg = 17 + 7 * i + 3 := nI_clamp (by omega)
      have hvi : vp_in (nI (17 + 7 * i + 3)) 73 := vp_in_nI (by omega) (by decide)
      by_cases w : f_X9_within (g i) 0 5 τ = 0
      · have es2 : ldN g m (d + 1) i = i := if_neg (fun q => q.2 w)
        rw [es2]
        simp only [cs, w, if_true, if_false]
        refine ⟨trivial, ⟨τ 191, (sr_id τ 191).symm, fun j => ?_⟩, hv, hvk, trivial⟩
        rw [if_neg (show ¬ (17 + 7 * i ≤ j ∧ j < 17 + 7 * i ∧ (j - 17) % 7 = 3) by omega)]
      · have es2 : ldN g m (d + 1) i = ldN g m d (i + 1) := if_pos ⟨c, w⟩
        rw [es2]
        simp only [cs, w, if_false, ea, ea']
        obtain ⟨a1, ⟨R, a2, a3⟩, a4⟩ := ih (i + 1) u (tw_sr τ 191 (upd (τ 191) (17 + 7 * i + 3) (g i))) (by omega) (by omega) (by rw [sr_ne (by omega)]; exact h1) (fun j hj => by rw [sr_ne (by omega)]; exact h2 j hj) (by rw [sr_self, pk_un (by omega)]; exact h8)
        refine ⟨a1, ⟨R, by rw [a2, sr_sr], fun j => ?_⟩, hv, hvk, hvk, hvi, a4⟩
        have l1 := (ldN_le g m d (i + 1)).1
        rw [a3 j, sr_self]
        by_cases e : j = 17 + 7 * i + 3
        · rw [if_neg (by omega), e, pk_us, if_pos (by omega), show (17 + 7 * i + 3 - 17) / 7 = i by omega]
        · rw [pk_un e]
          by_cases q : 17 + 7 * (i + 1) ≤ j ∧ j < 17 + 7 * ldN g m d (i + 1) ∧ (j - 17) % 7 = 3
          · rw [if_pos q, if_pos (by omega)]
          · rw [if_neg q, if_neg (by omega)]
    · have cs : f_X9_isShip (nI i) τ = 0 := hsh.mpr c
      have es2 : ldN g m (d + 1) i = i := if_neg (fun q => c q.1)
      rw [es2]
      simp only [cs, if_true]
      refine ⟨trivial, ⟨τ 191, (sr_id τ 191).symm, fun j => ?_⟩, hv, trivial⟩
      rw [if_neg (show ¬ (17 + 7 * i ≤ j ∧ j < 17 + 7 * i ∧ (j - 17) % 7 = 3) by omega)]
theorem st_load {c N : Nat} {τ : tw_T} (hI : Inv c τ) (hc : c < 512) (hN : 5000 ≤ N) (x1 : Int32) : p_X8_load N x1 τ ∧ p_X9_load N x1 (g_X8_load N x1 τ) ∧ f_X8_load N x1 τ = f_X9_load N x1 (g_X8_load N x1 τ) ∧ Inv (c + 1) (g_X9_load N x1 (g_X8_load N x1 τ)) := by
  unfold p_X8_load p_X9_load f_X9_load g_X9_load f_X8_load g_X8_load
  rcases trouble_or hI x1 with ⟨t1, t2, t3⟩ | ⟨s, hs, rfl, t1, t2, t3, t4⟩ | ⟨s, hs, rfl, t1, t2, t3, t4⟩
  · obtain ⟨q1, q2, q3⟩ := fail_tr hI hc (F := -1000001) (Or.inl rfl)
    obtain ⟨l1, l2⟩ := lacks_B (x2 := 1) (t3 (g_X8_found (-1000001) τ))
    simp only [t1, q3, l1, if_false]
    exact ⟨⟨t2, trivial⟩, ⟨l2, l2, q1, trivial⟩, rfl, q2⟩
  · obtain ⟨q1, q2, q3⟩ := fail_tr hI hc (F := -1000006) (Or.inr rfl)
    obtain ⟨l1, l2⟩ := lacks_M (x2 := 1) hs (t4 (g_X8_found (-1000006) τ)) (by rw [found_ne (by decide)]; exact t3)
    simp only [t1, q3, l1, if_false]
    exact ⟨⟨t2, trivial⟩, ⟨l2, l2, q1, trivial⟩, rfl, q2⟩
  · obtain ⟨M, ok, row, spt, ⟨hl, hn, hsh⟩, hz⟩ := inv_M hI
    have hM1 := ok.2.1
    have r1 : τ 191 1 = nI (M 1) := row 1 (by decide) (by decide)
    obtain ⟨i1, i2, i3, ⟨n, hn', i4⟩, i5⟩ := hI.2.2.2.2.1 s hs
    have a := l_load (N := N) (s := s) (n := n) (m := M 1) (x2 := 0) (g := fun j => τ 200 (40 * s + j)) hs hn' hM1 n 0 N τ (by omega) (by omega) (i2.trans i4) (fun j hj => i5 j hj) hn
    obtain ⟨a1, a2, a3, a4⟩ := a
    have e1 : lf_X8_load_18 N N (nI s) 0 0 τ = nI (ldN (fun j => τ 200 (40 * s + j)) (M 1) n 0) := a1
    have e2 : ∀ q, (q < 5 ∨ 13 ≤ q) → lg_X8_load_18 N N (nI s) 0 0 τ q = τ q := a2
    have e3 : ∀ k, k < 8 → lg_X8_load_18 N N (nI s) 0 0 τ (5 + k) = if 0 ≤ k ∧ k < ldN (fun j => τ 200 (40 * s + j)) (M 1) n 0 then upd (τ (5 + k)) 3 (τ 200 (40 * s + k)) else τ (5 + k) := a3
    have e4 : lo_X8_load_18 N N (nI s) 0 0 τ := a4
    obtain ⟨z1, z2, z3⟩ := ldN_le (fun j => τ 200 (40 * s + j)) (M 1) n 0
    generalize hr : ldN (fun j => τ 200 (40 * s + j)) (M 1) n 0 = r at *
    simp only [t1, if_true]
    generalize hG : lg_X8_load_18 N N (nI s) 0 0 τ = G at *
    obtain ⟨l1, l2⟩ := lacks_0 (x2 := 1) hs (t4 G) (by rw [e2 198 (by decide)]; exact t3) (by decide)
    obtain ⟨b1, ⟨R, b2, b3⟩, b4⟩ := ml_load (N := N) (s := s) (n := n) (m := M 1) (g := fun j => τ 200 (40 * s + j)) hs hn' hM1 n 0 N G (by omega) (by omega) (by rw [e2 199 (by decide)]; exact i4) (fun j hj => by rw [e2 200 (by decide)]) (by rw [e2 191 (by decide)]; exact r1)
    rw [hr] at b1 b3
    have b1' : lf_X9_load_22 N N (nI s) 0 G = nI r := b1
    have b2' : lg_X9_load_22 N N (nI s) 0 G = tw_sr G 191 R := b2
    simp only [l1, if_true, b2']
    refine ⟨⟨t2, e4⟩, ⟨l2, b4⟩, e1.trans b1'.symm, ?_⟩
    have val : ∀ k, k < r → ∃ v, v < 6 ∧ τ 200 (40 * s + k) = nI v := fun k hk => by
      obtain ⟨v, hv, e⟩ := w_of (n := 5) rfl (by decide) (z3 k (Nat.zero_le k) hk).2
      exact ⟨v, by omega, e⟩
    have hrM : r ≤ M 1 := by
      rcases Nat.eq_zero_or_pos r with q | q
      · omega
      · have := (z3 (r - 1) (Nat.zero_le _) (by omega)).1
        omega
    have R191 : ∀ j, R j = if 17 ≤ j ∧ j < 17 + 7 * r ∧ (j - 17) % 7 = 3 then τ 200 (40 * s + (j - 17) / 7) else τ 191 j := fun j => by
      rw [b3 j, e2 191 (by decide)]
    have Mlo : ∀ j, ¬ (17 ≤ j ∧ j < 17 + 7 * r ∧ (j - 17) % 7 = 3) → (fun j => if 17 ≤ j ∧ j < 17 + 7 * r ∧ (j - 17) % 7 = 3 then (τ 200 (40 * s + (j - 17) / 7)).toNatClampNeg else M j) j = M j := fun j h => if_neg h
    refine inv_of (M := fun j => if 17 ≤ j ∧ j < 17 + 7 * r ∧ (j - 17) % 7 = 3 then (τ 200 (40 * s + (j - 17) / 7)).toNatClampNeg else M j) hI hc (fun q hq => ?_) ⟨?_, ?_, fun j h1 h2 h3 => ?_⟩ ?_ ?_ ⟨?_, ?_, fun i hi f hf => ?_⟩ ⟨?_, fun i hi => ?_⟩
    · unfold keepC at hq
      rw [sr_ne (by omega), e2 q (by omega)]
    · rw [Mlo 0 (by omega)]; have := ok.1; omega
    · rw [Mlo 1 (by omega)]; exact hM1
    · by_cases q : 17 ≤ j ∧ j < 17 + 7 * r ∧ (j - 17) % 7 = 3
      · obtain ⟨v, hv, e⟩ := val ((j - 17) / 7) (by omega)
        show (if _ then _ else _) < _
        rw [if_pos q, e, nI_clamp (by omega)]
        have : bd j = 6 := by
          have ej : j = 17 + 7 * ((j - 17) / 7) + 3 := by omega
          rw [ej, bd_ship (by decide)]
          rfl
        omega
      · rw [Mlo j q]; exact ok.2.2 j h1 h2 h3
    · intro j h1 h2
      rw [sr_self, R191 j]
      by_cases q : 17 ≤ j ∧ j < 17 + 7 * r ∧ (j - 17) % 7 = 3
      · obtain ⟨v, hv, e⟩ := val ((j - 17) / 7) (by omega)
        show _ = nI (if _ then _ else _)
        rw [if_pos q, if_pos q, e, nI_clamp (by omega)]
      · rw [if_neg q, Mlo j q]
        exact row j h1 h2
    · intro i hi
      rw [sr_self, R191 (7 + i), if_neg (by omega), Mlo 1 (by omega)]
      exact spt i hi
    · unfold litR
      rw [Mlo 0 (by omega), Mlo 3 (by omega), Mlo 4 (by omega), Mlo 5 (by omega), Mlo 6 (by omega), sr_ne (by decide), e2 2 (by decide)]
      exact hl
    · rw [sr_ne (by decide), e2 3 (by decide), Mlo 1 (by omega)]
      exact hn
    · rw [Mlo 1 (by omega)] at hi
      rw [sr_ne (by omega), show 1 + 4 + i = 5 + i by omega, e3 i (by omega)]
      have hb := hsh i hi f hf
      rw [show 1 + 4 + i = 5 + i by omega] at hb
      show _ = nI (if 17 ≤ 17 + 7 * i + f ∧ 17 + 7 * i + f < 17 + 7 * r ∧ (17 + 7 * i + f - 17) % 7 = 3 then (τ 200 (40 * s + (17 + 7 * i + f - 17) / 7)).toNatClampNeg else M (17 + 7 * i + f))
      have ed : (17 + 7 * i + f - 17) / 7 = i := by omega
      have em : (17 + 7 * i + f - 17) % 7 = f := by omega
      rw [ed, em]
      by_cases q : i < r
      · rw [if_pos ⟨Nat.zero_le i, q⟩]
        by_cases q3 : f = 3
        · obtain ⟨v, hv, e⟩ := val i q
          rw [q3, pk_us, if_pos (by omega), e, nI_clamp (by omega)]
        · rw [pk_un q3, if_neg (by omega)]
          exact hb
      · rw [if_neg (by omega), if_neg (by omega)]
        exact hb
    · rw [sr_self, sr_ne (by decide), e2 1 (by decide), R191 2, if_neg (by omega)]
      exact hz.1
    · rw [sr_self, sr_ne (by decide), e2 (1 + 12) (by decide), R191 (7 + i), if_neg (by omega)]
      exact hz.2 i hi
