/-! ===== the call: kinds ===== -/
theorem l_sas {N t n T : Nat} {M s : Nat → Nat} {g : Nat → Int32} (ok : okL T M) (os : okS s) (hT : M 0 + 50 ≤ 99999) (hn : n ≤ 40) (ht : t ≠ 45) (ht2 : t + 1 ≠ 45) : ∀ d k fuel (τ : tw_T), k + d = n → d < fuel → litR (τ 2) M → shR (τ 45) (sailK M s k) → τ t 2 = nI n → (∀ j, j < 40 → τ (t + 1) j = g j) →
    lf_X8_sailsAs_2 N t 45 fuel (nI k) τ = boolI (okAll g (fun j => sailK M s j 1) d k) ∧ (∃ r, lg_X8_sailsAs_2 N t 45 fuel (nI k) τ = tw_sr τ 45 r) ∧ lo_X8_sailsAs_2 N t 45 fuel (nI k) τ := by
  intro d
  induction d with
  | zero =>
    intro k fuel τ hk hf hl hs h1 h2
    obtain ⟨u, rfl⟩ : ∃ u, fuel = u + 1 := ⟨fuel - 1, by omega⟩
    have e : k = n := by omega
    subst e
    have hle : nI k ≤ nI k := nI_le (Nat.le_refl k) (by omega)
    rw [lf_X8_sailsAs_2, lg_X8_sailsAs_2, lo_X8_sailsAs_2, h1, if_pos hle, if_pos hle, if_pos hle]
    exact ⟨rfl, ⟨τ 45, (sr_id τ 45).symm⟩, trivial⟩
  | succ d ih =>
    intro k fuel τ hk hf hl hs h1 h2
    obtain ⟨u, rfl⟩ : ∃ u, fuel = u + 1 := ⟨fuel - 1, by omega⟩
    have hgt := nI_ge (show k < n by omega) (show n < 2 ^ 31 by omega)
    have hv : vp_in (nI k) 40 := vp_in_nI (by omega) (by decide)
    obtain ⟨r, t1, t2⟩ := c_tickOn (k := 45) (i := k) ok os (by omega) (by decide) hl hs
    rw [lf_X8_sailsAs_2, lg_X8_sailsAs_2, lo_X8_sailsAs_2, h1, if_neg hgt, if_neg hgt, if_neg hgt, nI_clamp (by omega), h2 k (by omega), hs 1 (by decide), t1, nI_1]
    obtain ⟨a1, ⟨r', a2⟩, a3⟩ := ih (k + 1) u (tw_sr τ 45 r) (by omega) (by omega) (by rw [sr_ne (by decide)]; exact hl) (by rw [sr_self]; exact t2) (by rw [sr_ne ht]; exact h1) (fun j hj => by rw [sr_ne ht2]; exact h2 j hj)
    by_cases c1 : g k = -1
    · have eo : okAll g (fun j => sailK M s j 1) (d + 1) k = okAll g (fun j => sailK M s j 1) d (k + 1) := if_pos (Or.inl c1)
      rw [eo, if_pos c1, if_pos c1, if_pos c1]
      exact ⟨a1, ⟨r', by rw [a2, sr_sr]⟩, hv, a3⟩
    · rw [if_neg c1, if_neg c1, if_neg c1]
      by_cases c2 : g k = nI (sailK M s k 1)
      · have eo : okAll g (fun j => sailK M s j 1) (d + 1) k = okAll g (fun j => sailK M s j 1) d (k + 1) := if_pos (Or.inr c2)
        rw [eo, if_pos c2, if_pos c2, if_pos c2]
        exact ⟨a1, ⟨r', by rw [a2, sr_sr]⟩, hv, a3⟩
      · have eo : okAll g (fun j => sailK M s j 1) (d + 1) k = false := if_neg (fun q => q.elim c1 c2)
        rw [eo, if_neg c2, if_neg c2, if_neg c2]
        exact ⟨rfl, ⟨τ 45, (sr_id τ 45).symm⟩, hv, trivial⟩
theorem ml_way {N s n x T : Nat} {M : Nat → Nat} {g : Nat → Int32} {τ : tw_T} (hs : s < 4) (hn : n ≤ 40) (ok : okT T M) (hT : T + 100 < 2 ^ 30) (hx : x < M 1) (hN : 74 ≤ N) (h1 : τ 199 s = nI n) (h2 : ∀ j, j < 40 → τ 200 (40 * s + j) = g j) : ∀ d k fuel (R : Nat → Int32), k + d = n → d + 1 < fuel → rowT R (tk M k) → oth R (τ 191) →
    lf_X9_isWaySo_16 N fuel (nI s) (nI x) 1 (nI k) (tw_sr (tw_sr τ 193 (cpR (τ 191) (τ 193))) 191 R) = boolI (okAll g (fun j => tk M j (17 + 7 * x + 1)) d k) ∧ lg_X9_isWaySo_16 N fuel (nI s) (nI x) 1 (nI k) (tw_sr (tw_sr τ 193 (cpR (τ 191) (τ 193))) 191 R) = tw_sr τ 193 (cpR (τ 191) (τ 193)) ∧ lo_X9_isWaySo_16 N fuel (nI s) (nI x) 1 (nI k) (tw_sr (tw_sr τ 193 (cpR (τ 191) (τ 193))) 191 R) := by
  have hM1 := ok.2.1
  have es : (nI s).toNatClampNeg = s := nI_clamp (by omega)
  have vs : vp_in (nI s) 4 := vp_in_nI hs (by decide)
  have n10 : ¬ (1 : Int32) = 0 := by decide
  have T199 : ∀ R, (tw_sr (tw_sr τ 193 (cpR (τ 191) (τ 193))) 191 R) 199 = τ 199 := fun R => by rw [sr_ne (by decide), sr_ne (by decide)]
  have T200 : ∀ R, (tw_sr (tw_sr τ 193 (cpR (τ 191) (τ 193))) 191 R) 200 = τ 200 := fun R => by rw [sr_ne (by decide), sr_ne (by decide)]
  intro d
  induction d with
  | zero =>
    intro k fuel R hk hf hr ho
    obtain ⟨u, rfl⟩ : ∃ u, fuel = u + 1 := ⟨fuel - 1, by omega⟩
    have e : k = n := by omega
    subst e
    have hle : nI k ≤ nI k := nI_le (Nat.le_refl k) (by omega)
    obtain ⟨k1, k2⟩ := m_back (N := N) (τ := τ) hN ho
    rw [lf_X9_isWaySo_16, lg_X9_isWaySo_16, lo_X9_isWaySo_16, es, T199, h1, if_pos hle, if_pos hle, if_pos hle]
    exact ⟨rfl, k1, vs, k2, rfl, trivial⟩
  | succ d ih =>
    intro k fuel R hk hf hr ho
    obtain ⟨u, rfl⟩ : ∃ u, fuel = u + 1 := ⟨fuel - 1, by omega⟩
    obtain ⟨w, rfl⟩ : ∃ w, u = w + 1 := ⟨u - 1, by omega⟩
    have hgt := nI_ge (show k < n by omega) (show n < 2 ^ 31 by omega)
    have e40 : (40 : Int32) * nI s + nI k = nI (40 * s + k) := by rw [show (40 : Int32) = nI 40 from rfl, pk_mul, nI_add]
    have e40' : (nI (40 * s + k)).toNatClampNeg = 40 * s + k := nI_clamp (by omega)
    have hv : vp_in (nI (40 * s + k)) 160 := vp_in_nI (by omega) (by decide)
    have okn := okT_tk ok k
    have bnd : tk M k (17 + 7 * x + 1) < 24 := (okT_S okn (i := x) (by omega)).2.1
    have ei : f_X9_shipIs (nI x) 1 (tw_sr (tw_sr τ 193 (cpR (τ 191) (τ 193))) 191 R) = nI (tk M k (17 + 7 * x + 1)) := by
      rw [q_1, m_is (by omega), sr_self, hr _ (by omega) (by omega)]
    have pi : p_X9_shipIs (nI x) 1 (tw_sr (tw_sr τ 193 (cpR (τ 191) (τ 193))) 191 R) := m_pis (f := 1) (by omega) _
    obtain ⟨R', t1, t2, t3, t4⟩ := m_tick (N := N) (τ := tw_sr (tw_sr τ 193 (cpR (τ 191) (τ 193))) 191 R) okn (by omega) (by omega) (by rw [sr_self]; exact hr)
    rw [sr_self] at t3
    have ho' : oth R' (τ 191) := fun j hj => (t3 j hj).trans (ho j hj)
    rw [lf_X9_isWaySo_16, lg_X9_isWaySo_16, lo_X9_isWaySo_16, es, T199, T200, h1, if_neg hgt, if_neg hgt, if_neg hgt, if_neg n10, if_neg n10, if_neg n10, e40, e40', h2 k (by omega), ei, t1, sr_sr, nI_1]
    obtain ⟨a1, a2, a3⟩ := ih (k + 1) (w + 1) R' (by omega) (by omega) t2 ho'
    have stop : lf_X9_isWaySo_16 N (w + 1) (nI s) (nI x) 0 (nI (k + 1)) (tw_sr (tw_sr τ 193 (cpR (τ 191) (τ 193))) 191 R') = 0 ∧ lg_X9_isWaySo_16 N (w + 1) (nI s) (nI x) 0 (nI (k + 1)) (tw_sr (tw_sr τ 193 (cpR (τ 191) (τ 193))) 191 R') = tw_sr τ 193 (cpR (τ 191) (τ 193)) ∧ lo_X9_isWaySo_16 N (w + 1) (nI s) (nI x) 0 (nI (k + 1)) (tw_sr (tw_sr τ 193 (cpR (τ 191) (τ 193))) 191 R') := by
      obtain ⟨k1, k2⟩ := m_back (N := N) (τ := τ) hN ho'
      rw [lf_X9_isWaySo_16, lg_X9_isWaySo_16, lo_X9_isWaySo_16, es, T199, h1]
      by_cases q : nI n ≤ nI (k + 1)
      · rw [if_pos q, if_pos q, if_pos q]; exact ⟨rfl, k1, vs, k2, rfl, trivial⟩
      · rw [if_neg q, if_neg q, if_neg q, if_pos rfl, if_pos rfl, if_pos rfl]; exact ⟨rfl, k1, vs, k2, rfl, trivial⟩
    by_cases c1 : g k = -1
    · have eo : okAll g (fun j => tk M j (17 + 7 * x + 1)) (d + 1) k = okAll g (fun j => tk M j (17 + 7 * x + 1)) d (k + 1) := if_pos (Or.inl c1)
      rw [eo, if_pos c1, if_pos c1, if_pos c1]
      exact ⟨a1, a2, vs, hv, t4, a3⟩
    · rw [if_neg c1, if_neg c1, if_neg c1]
      by_cases c2 : g k = nI (tk M k (17 + 7 * x + 1))
      · have eo : okAll g (fun j => tk M j (17 + 7 * x + 1)) (d + 1) k = okAll g (fun j => tk M j (17 + 7 * x + 1)) d (k + 1) := if_pos (Or.inr c2)
        rw [eo, if_pos c2, if_pos c2, if_pos c2]
        exact ⟨a1, a2, vs, hv, pi, t4, a3⟩
      · have eo : okAll g (fun j => tk M j (17 + 7 * x + 1)) (d + 1) k = false := if_neg (fun q => q.elim c1 c2)
        rw [eo, if_neg c2, if_neg c2, if_neg c2]
        exact ⟨stop.1, stop.2.1, vs, hv, pi, t4, stop.2.2⟩
theorem m_way {N s n x T : Nat} {M : Nat → Nat} {g : Nat → Int32} {τ : tw_T} (hs : s < 4) (hn : n ≤ 40) (ok : okT T M) (hT : T + 100 < 2 ^ 30) (hx : x < M 1) (hN : 74 ≤ N) (h1 : τ 199 s = nI n) (h2 : ∀ j, j < 40 → τ 200 (40 * s + j) = g j) (row : rowT (τ 191) M) :
    f_X9_isWaySo N (nI s) (nI x) τ = boolI (okAll g (fun j => tk M j (17 + 7 * x + 1)) n 0) ∧ g_X9_isWaySo N (nI s) (nI x) τ = tw_sr τ 193 (cpR (τ 191) (τ 193)) ∧ p_X9_isWaySo N (nI s) (nI x) τ := by
  obtain ⟨c1, c2⟩ := cp_start (N := N) (τ := τ) hN
  unfold f_X9_isWaySo g_X9_isWaySo p_X9_isWaySo
  rw [c1]
  obtain ⟨a1, a2, a3⟩ := ml_way (N := N) hs hn ok hT hx hN h1 h2 n 0 N (τ 191) (by omega) (by omega) row (fun _ _ => rfl)
  exact ⟨a1, a2, c2, a3⟩
def kdW (M : Nat → Nat) (x n : Nat) (g : Nat → Int32) (v : Nat) : Bool := okAll g (fun j => sailK M (mU (shipN M x) 0 v) j 1) n 0
theorem kd_tk {T x n v : Nat} {M : Nat → Nat} {g : Nat → Int32} (ok : okT T M) (hx : x < M 1) : okAll g (fun j => tk (mU M (17 + 7 * x) v) j (17 + 7 * x + 1)) n 0 = kdW M x n g v := by
  have okl := okT_L ok
  refine okAll_cong n 0 (fun j _ _ => ?_)
  have e : shipN (mU M (17 + 7 * x) v) x = mU (shipN M x) 0 v := by
    funext f
    unfold shipN
    by_cases c : f = 0
    · subst c; rw [mU_self, Nat.add_zero, mU_self]
    · rw [mU_ne c, mU_ne (by omega)]
  rw [tk_ship _ (by rw [mU_ne (by omega)]; exact hx) j 1 (by decide), sailK_cong (mU_ne (by omega)) (mU_ne (by omega)) (mU_ne (by omega)) (mU_ne (by omega)) (mU_ne (by omega)) okl.2.2.2.2 okl.2.2.1 j, e]
theorem l_kinds {N s n x T : Nat} {M : Nat → Nat} {g : Nat → Int32} {x3 : Int32} (hs : s < 4) (hn : n ≤ 40) (ok : okT T M) (hT : M 0 + 50 ≤ 99999) (hx : x < M 1) (hN : 50 ≤ N) : ∀ d k fuel (τ : tw_T), k + d = 7 → d < fuel → litR (τ 2) M → shR (τ (1 + 4 + x)) (shipN M x) → τ (182 + 2 * s) 2 = nI n → (∀ j, j < 40 → τ (182 + 2 * s + 1) j = g j) →
    lf_X8_kinds_37 N fuel (nI s) (nI x) x3 (setI (kdW M x n g) k) (nI k) τ = setI (kdW M x n g) 7 ∧ (∃ r, lg_X8_kinds_37 N fuel (nI s) (nI x) x3 (setI (kdW M x n g) k) (nI k) τ = tw_sr τ 45 r) ∧ lo_X8_kinds_37 N fuel (nI s) (nI x) x3 (setI (kdW M x n g) k) (nI k) τ := by
  have hM1 := ok.2.1
  have es : (nI s).toNatClampNeg = s := nI_clamp (by omega)
  have vs : vp_in (nI s) 4 := vp_in_nI hs (by decide)
  have ex : (nI x).toNatClampNeg = x := nI_clamp (by omega)
  have vx : vp_in (nI x) 8 := vp_in_nI (by omega) (by decide)
  have os := okT_S ok (i := x) (by omega)
  intro d
  induction d with
  | zero =>
    intro k fuel τ hk hf hl hsh h1 h2
    obtain ⟨u, rfl⟩ : ∃ u, fuel = u + 1 := ⟨fuel - 1, by omega⟩
    have e : k = 7 := by omega
    subst e
    have hlt : (6 : Int32) < nI 7 := by decide
    rw [lf_X8_kinds_37, lg_X8_kinds_37, lo_X8_kinds_37, if_pos hlt, if_pos hlt, if_pos hlt]
    exact ⟨rfl, ⟨τ 45, (sr_id τ 45).symm⟩, trivial⟩
  | succ d ih =>
    intro k fuel τ hk hf hl hsh h1 h2
    obtain ⟨u, rfl⟩ : ∃ u, fuel = u + 1 := ⟨fuel - 1, by omega⟩
    have hnlt : ¬ (6 : Int32) < nI k := nI_nlt (a := 6) (b := k) (by omega) (by decide)
    obtain ⟨r, t1, t2⟩ := c_take (τ := τ) (k := 45) (o := 1 + 4 + x) (by omega)
    have e5 : 3 + 2 + x = 1 + 4 + x := by omega
    have hsr : shR ((tw_sr τ 45 (upd r 0 (nI k))) 45) (mU (shipN M x) 0 k) := by
      rw [sr_self]
      intro f hf
      by_cases c : f = 0
      · subst c; rw [pk_us, mU_self]
      · rw [pk_un c, mU_ne c, t2 f hf]; exact hsh f hf
    obtain ⟨b1, ⟨r', b2⟩, b3⟩ := l_sas (N := N) (t := 182 + 2 * s) (n := n) (M := M) (s := mU (shipN M x) 0 k) (g := g) (okT_L ok) (okS_mU os (by decide) (show k < 7 by omega)) hT hn (by omega) (by omega) n 0 N (tw_sr τ 45 (upd r 0 (nI k))) (by omega) (by omega) (by rw [sr_ne (by decide)]; exact hl) hsr (by rw [sr_ne (by omega)]; exact h1) (fun j hj => by rw [sr_ne (by omega)]; exact h2 j hj)
    have b1' : f_X8_sailsAs N (182 + 2 * s) 45 (tw_sr τ 45 (upd r 0 (nI k))) = boolI (kdW M x n g k) := b1
    have b2' : g_X8_sailsAs N (182 + 2 * s) 45 (tw_sr τ 45 (upd r 0 (nI k))) = tw_sr τ 45 r' := by rw [show g_X8_sailsAs N (182 + 2 * s) 45 (tw_sr τ 45 (upd r 0 (nI k))) = _ from b2, sr_sr]
    have b3' : p_X8_sailsAs N (182 + 2 * s) 45 (tw_sr τ 45 (upd r 0 (nI k))) := b3
    rw [lf_X8_kinds_37, lg_X8_kinds_37, lo_X8_kinds_37, if_neg hnlt, if_neg hnlt, if_neg hnlt, es, ex, e5, t1, sr_self, sr_sr, b1', b2', nI_1]
    obtain ⟨a1, ⟨w, a2⟩, a3⟩ := ih (k + 1) u (tw_sr τ 45 r') (by omega) (by omega) (by rw [sr_ne (by decide)]; exact hl) (by rw [sr_ne (by omega)]; exact hsh) (by rw [sr_ne (by omega)]; exact h1) (fun j hj => by rw [sr_ne (by omega)]; exact h2 j hj)
    by_cases c : kdW M x n g k = true
    · have c' : ¬ boolI (kdW M x n g k) = 0 := by rw [boolI_0, c]; decide
      have eS : setI (kdW M x n g) (k + 1) = setI (kdW M x n g) k ||| ((1 : Int32) <<< (nI k &&& 31)) := if_pos c
      rw [eS] at a1 a2 a3
      rw [if_neg c', if_neg c', if_neg c']
      exact ⟨a1, ⟨w, by rw [a2, sr_sr]⟩, vx, vs, b3', a3⟩
    · have c' : boolI (kdW M x n g k) = 0 := by rw [boolI_0]; simpa using c
      have eS : setI (kdW M x n g) (k + 1) = setI (kdW M x n g) k := if_neg c
      rw [eS] at a1 a2 a3
      rw [if_pos c', if_pos c', if_pos c']
      exact ⟨a1, ⟨w, by rw [a2, sr_sr]⟩, vx, vs, b3', a3⟩
theorem ml_kinds {N s n x T : Nat} {M : Nat → Nat} {g : Nat → Int32} {x3 : Int32} {τ : tw_T} (hs : s < 4) (hn : n ≤ 40) (ok : okT T M) (hT : T + 100 < 2 ^ 30) (hx : x < M 1) (hN : 74 ≤ N) (row : rowT (τ 191) M) (h1 : τ 199 s = nI n) (h2 : ∀ j, j < 40 → τ 200 (40 * s + j) = g j) : ∀ d k fuel (Y : Nat → Int32) (w : Int32), k + d = 7 → d < fuel →
    lf_X9_kinds_43 N fuel (nI s) (nI x) x3 (nI (17 + 7 * x)) (τ 191 (17 + 7 * x)) (setI (kdW M x n g) k) (nI k) (thk τ Y (17 + 7 * x) w) = setI (kdW M x n g) 7 ∧ (∃ Y', lg_X9_kinds_43 N fuel (nI s) (nI x) x3 (nI (17 + 7 * x)) (τ 191 (17 + 7 * x)) (setI (kdW M x n g) k) (nI k) (thk τ Y (17 + 7 * x) w) = tw_sr τ 193 Y') ∧ lo_X9_kinds_43 N fuel (nI s) (nI x) x3 (nI (17 + 7 * x)) (τ 191 (17 + 7 * x)) (setI (kdW M x n g) k) (nI k) (thk τ Y (17 + 7 * x) w) := by
  have hM1 := ok.2.1
  have ep : (nI (17 + 7 * x)).toNatClampNeg = 17 + 7 * x := nI_clamp (by omega)
  have vp : vp_in (nI (17 + 7 * x)) 73 := vp_in_nI (by omega) (by decide)
  have tq : ∀ Y w q, q ≠ 191 → q ≠ 193 → (thk τ Y (17 + 7 * x) w) q = τ q := fun Y w q a b => by unfold thk; rw [sr_ne a, sr_ne b]
  intro d
  induction d with
  | zero =>
    intro k fuel Y w hk hf
    obtain ⟨u, rfl⟩ : ∃ u, fuel = u + 1 := ⟨fuel - 1, by omega⟩
    have e : k = 7 := by omega
    subst e
    have hlt : (6 : Int32) < nI 7 := by decide
    rw [lf_X9_kinds_43, lg_X9_kinds_43, lo_X9_kinds_43, if_pos hlt, if_pos hlt, if_pos hlt, ep, thk_set, thk_end]
    exact ⟨rfl, ⟨Y, rfl⟩, vp, trivial⟩
  | succ d ih =>
    intro k fuel Y w hk hf
    obtain ⟨u, rfl⟩ : ∃ u, fuel = u + 1 := ⟨fuel - 1, by omega⟩
    have hnlt : ¬ (6 : Int32) < nI k := nI_nlt (a := 6) (b := k) (by omega) (by decide)
    have okv := okT_mU (j := 17 + 7 * x) (v := k) ok (by omega) (by omega) (by omega) (by rw [show 17 + 7 * x = 17 + 7 * x + 0 from rfl, bd_ship (by decide)]; show k < 7; omega)
    obtain ⟨b1, b2, b3⟩ := m_way (N := N) (g := g) (τ := thk τ Y (17 + 7 * x) (nI k)) hs hn okv (by omega) (by rw [mU_ne (by omega)]; exact hx) hN (by rw [tq _ _ _ (by decide) (by decide)]; exact h1) (fun j hj => by rw [tq _ _ _ (by decide) (by decide)]; exact h2 j hj) (by rw [thk_191]; exact rowT_mU row)
    rw [kd_tk ok hx] at b1
    rw [thk_193] at b2
    rw [lf_X9_kinds_43, lg_X9_kinds_43, lo_X9_kinds_43, if_neg hnlt, if_neg hnlt, if_neg hnlt, ep, thk_set, b1, b2, or_0, nI_1]
    obtain ⟨a1, a2, a3⟩ := ih (k + 1) u (cpR ((thk τ Y (17 + 7 * x) (nI k)) 191) ((thk τ Y (17 + 7 * x) (nI k)) 193)) (nI k) (by omega) (by omega)
    by_cases c : kdW M x n g k = true
    · have c' : ¬ boolI (kdW M x n g k) = 0 := by rw [boolI_0, c]; decide
      have eS : setI (kdW M x n g) (k + 1) = setI (kdW M x n g) k ||| ((1 : Int32) <<< (nI k &&& 31)) := if_pos c
      rw [eS] at a1 a2 a3
      rw [if_neg c', if_neg c', if_neg c']
      exact ⟨a1, a2, vp, b3, a3⟩
    · have c' : boolI (kdW M x n g k) = 0 := by rw [boolI_0]; simpa using c
      have eS : setI (kdW M x n g) (k + 1) = setI (kdW M x n g) k := if_neg c
      rw [eS] at a1 a2 a3
      rw [if_pos c', if_pos c', if_pos c']
      exact ⟨a1, a2, vp, b3, a3⟩
theorem lacks_S {s : Nat} {x2 : Int32} {τ : tw_T} (hs : s < 4) (h : ¬ f_X9_isSheet (nI s) τ = 0) (hz : ¬ τ 198 s = 0) (h2 : x2 = 0) : f_X9_lacks (nI s) x2 τ = -1000001 ∧ p_X9_lacks (nI s) x2 τ := by
  unfold f_X9_lacks p_X9_lacks
  rw [if_neg h, if_neg h, nI_clamp (by omega), if_neg hz, if_pos h2]
  exact ⟨rfl, vp_in_nI hs (by decide), trivial⟩
theorem st_kinds {c N : Nat} {τ : tw_T} (hI : Inv c τ) (hc : c < 512) (hN : 5000 ≤ N) (x1 x2 : Int32) : p_X8_kinds N x1 x2 τ ∧ p_X9_kinds N x1 x2 (g_X8_kinds N x1 x2 τ) ∧ f_X8_kinds N x1 x2 τ = f_X9_kinds N x1 x2 (g_X8_kinds N x1 x2 τ) ∧ Inv (c + 1) (g_X9_kinds N x1 x2 (g_X8_kinds N x1 x2 τ)) := by
  unfold p_X8_kinds p_X9_kinds f_X9_kinds g_X9_kinds f_X8_kinds g_X8_kinds
  rcases trouble_or hI x1 with ⟨t1, t2, t3⟩ | ⟨s, hs, rfl, t1, t2, t3, t4⟩ | ⟨s, hs, rfl, t1, t2, t3, t4⟩
  · obtain ⟨q1, q2, q3⟩ := fail_tr hI hc (F := -1000001) (Or.inl rfl)
    obtain ⟨l1, l2⟩ := lacks_B (x2 := f_X9_isShip x2 (g_X8_found (-1000001) τ)) (t3 (g_X8_found (-1000001) τ))
    simp only [t1, q3, l1, if_false]
    exact ⟨⟨t2, trivial⟩, ⟨l2, q1, trivial⟩, rfl, q2⟩
  · obtain ⟨q1, q2, q3⟩ := fail_tr hI hc (F := -1000006) (Or.inr rfl)
    obtain ⟨l1, l2⟩ := lacks_M (x2 := f_X9_isShip x2 (g_X8_found (-1000006) τ)) hs (t4 (g_X8_found (-1000006) τ)) (by rw [found_ne (by decide)]; exact t3)
    simp only [t1, q3, l1, if_false]
    exact ⟨⟨t2, trivial⟩, ⟨l2, q1, trivial⟩, rfl, q2⟩
  · obtain ⟨M, ok, row, spt, ⟨hl, hn, hsh⟩, hz⟩ := inv_M hI
    have hM0 := ok.1
    have hM1 := ok.2.1
    have r1 : τ 191 1 = nI (M 1) := row 1 (by decide) (by decide)
    have rf : (g_X8_found ((-1000001)) τ) 191 1 = nI (M 1) := by rw [found_ne (by decide)]; exact r1
    rcases isShip_or (τ := τ) hn hM1 x2 with ⟨a, b⟩ | ⟨x, hx, rfl, a, b⟩
    · obtain ⟨q1, q2⟩ := fail_B hI hc
      have nB : ¬ (-1000001 : Int32) = 0 := by decide
      obtain ⟨l1, l2⟩ := lacks_S (x2 := f_X9_isShip x2 (g_X8_found (-1000001) τ)) hs (t4 (g_X8_found (-1000001) τ)) (by rw [found_ne (by decide)]; exact t3) (b _ rf)
      simp only [t1, a, l1, nB, if_true, if_false]
      exact ⟨⟨t2, trivial⟩, ⟨l2, q1, trivial⟩, rfl, q2⟩
    · obtain ⟨i1, i2, i3, ⟨n, hn', i4⟩, i5⟩ := hI.2.2.2.2.1 s hs
      obtain ⟨a1, ⟨r, a2⟩, a3⟩ := l_kinds (N := N) (s := s) (n := n) (x := x) (g := fun j => τ 200 (40 * s + j)) (x3 := 0) hs hn' ok (by omega) hx (by omega) 7 0 N τ (by omega) (by omega) hl (hsh x hx) (i2.trans i4) (fun j hj => i5 j hj)
      have a1' : lf_X8_kinds_37 N N (nI s) (nI x) 0 0 0 τ = _ := a1
      have a2' : lg_X8_kinds_37 N N (nI s) (nI x) 0 0 0 τ = _ := a2
      have a3' : lo_X8_kinds_37 N N (nI s) (nI x) 0 0 0 τ := a3
      simp only [t1, a, if_true, if_false, a2']
      have g : ∀ q, q ≠ 45 → (tw_sr τ 45 r) q = τ q := fun q h => sr_ne h
      have hh := b (tw_sr τ 45 r) (by rw [g 191 (by decide)]; exact r1)
      obtain ⟨l1, l2⟩ := lacks_0 (τ := tw_sr τ 45 r) hs (t4 _) (by rw [g 198 (by decide)]; exact t3) hh
      have ea : f_X9_shipAt (nI x) 0 (tw_sr τ 45 r) = nI (17 + 7 * x) := m_at x 0 _
      have ep : (nI (17 + 7 * x)).toNatClampNeg = 17 + 7 * x := nI_clamp (by omega)
      have vp : vp_in (nI (17 + 7 * x)) 73 := vp_in_nI (by omega) (by decide)
      obtain ⟨b1, ⟨Y, b2⟩, b3⟩ := ml_kinds (N := N) (s := s) (n := n) (x := x) (g := fun j => τ 200 (40 * s + j)) (x3 := 0) (τ := tw_sr τ 45 r) hs hn' ok (by omega) hx (by omega) (by rw [g 191 (by decide)]; exact row) (by rw [g 199 (by decide)]; exact i4) (fun j hj => by rw [g 200 (by decide)]) 7 0 N ((tw_sr τ 45 r) 193) ((tw_sr τ 45 r) 191 (17 + 7 * x)) (by omega) (by omega)
      rw [← thk_start] at b1 b2 b3
      have b1' : lf_X9_kinds_43 N N (nI s) (nI x) 0 (nI (17 + 7 * x)) ((tw_sr τ 45 r) 191 (17 + 7 * x)) 0 0 (tw_sr τ 45 r) = _ := b1
      have b2' : lg_X9_kinds_43 N N (nI s) (nI x) 0 (nI (17 + 7 * x)) ((tw_sr τ 45 r) 191 (17 + 7 * x)) 0 0 (tw_sr τ 45 r) = _ := b2
      simp only [l1, if_true, ea, ep, b2']
      exact ⟨⟨t2, a3'⟩, ⟨l2, vp, b3⟩, a1'.trans b1'.symm, Inv_mono (inv_scratch hI hc (by decide) r Y) hc⟩
