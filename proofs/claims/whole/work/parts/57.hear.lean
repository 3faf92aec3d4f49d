/-! ===== the demand of a sheet, in the class ===== -/
def demR (r : Nat → Int32) (lit dark ref : Nat) : Prop := r 0 = nI lit ∧ r 1 = nI dark ∧ r 2 = nI ref
theorem demR_0 {r : Nat → Int32} {lit dark ref v : Nat} (h : demR r lit dark ref) : demR (upd r 0 (nI v)) v dark ref := ⟨pk_us, by rw [pk_un (by decide)]; exact h.2.1, by rw [pk_un (by decide)]; exact h.2.2⟩
theorem demR_1 {r : Nat → Int32} {lit dark ref v : Nat} (h : demR r lit dark ref) : demR (upd r 1 (nI v)) lit v ref := ⟨by rw [pk_un (by decide)]; exact h.1, pk_us, by rw [pk_un (by decide)]; exact h.2.2⟩
theorem demR_2 {r : Nat → Int32} {lit dark ref v : Nat} (h : demR r lit dark ref) : demR (upd r 2 (nI v)) lit dark v := ⟨by rw [pk_un (by decide)]; exact h.1, by rw [pk_un (by decide)]; exact h.2.1, pk_us⟩
theorem or_lt12 {a q : Nat} (ha : a < 4096) (hq : q < 12) : a ||| 2 ^ q < 4096 := by
  have h2 : (2 : Nat) ^ q < 2 ^ 12 := Nat.pow_lt_pow_right (by decide) hq
  exact Nat.or_lt_two_pow (n := 12) ha h2
/-- what one number of a sheet does to the demand -/
theorem c_one {T lit dark ref k : Nat} {v : Int32} {M : Nat → Nat} {τ : tw_T} (hl : litR (τ 2) M) (ok : okL T M) (hT : M 0 + k ≤ 99999) (hd : demR (τ 48) lit dark ref) (b1 : lit < 4096) (b2 : dark < 4096) (b3 : ref < 2) :
    ∃ r lit' dark' ref', g_X0_hearOne 2 v (nI k) τ = tw_sr τ 48 r ∧ demR r lit' dark' ref' ∧ lit' < 4096 ∧ dark' < 4096 ∧ ref' < 2 ∧ p_X0_hearOne 2 v (nI k) τ ∧
      ∀ p, p < 4096 → (decide (ref' = 0) && satB p lit' dark') = (decide (ref = 0) && satB p lit dark && decide (v = nI (patC M p k))) := by
  obtain ⟨l0, l3, l4, l5, l6⟩ := ok
  have pc : ∀ p, patC M p k < 2 := fun p => sndN_lt _
  unfold g_X0_hearOne p_X0_hearOne
  by_cases w : f_X8_within v 0 1 τ = 0
  · rw [if_pos w, if_pos w]
    refine ⟨_, lit, dark, 1, rfl, demR_2 hd, b1, b2, by decide, trivial, fun p hp => ?_⟩
    have hne : ¬ v = nI (patC M p k) := by
      intro e
      rw [e] at w
      exact w_in (n := 1) (by have := pc p; omega) (by decide) w
    simp [hne]
  · rw [if_neg w, if_neg w]
    obtain ⟨b, hb, rfl⟩ := w_of (n := 1) rfl (by decide) w
    -- when the pattern decides: a bit is asked for
    have ask : ∀ t, M 0 + t ≤ 99999 → (∀ p, patC M p k = fstN p (M 0 + t)) →
        ∃ r lit' dark' ref', (if nI b = (1 : Int32) then tw_sr τ 48 (upd (τ 48) 0 (τ 48 0 ||| f_X2_bitAhead 2 (nI t) τ)) else tw_sr τ 48 (upd (τ 48) 1 (τ 48 1 ||| f_X2_bitAhead 2 (nI t) τ))) = tw_sr τ 48 r ∧ demR r lit' dark' ref' ∧ lit' < 4096 ∧ dark' < 4096 ∧ ref' < 2 ∧
        ∀ p, p < 4096 → (decide (ref' = 0) && satB p lit' dark') = (decide (ref = 0) && satB p lit dark && decide (nI b = nI (patC M p k))) := by
      intro t ht he
      have hm : (M 0 + t) % 12 < 12 := Nat.mod_lt _ (by decide)
      rw [l_bit hl ht, hd.1, hd.2.1, q_or, q_or]
      rcases (show b = 0 ∨ b = 1 by omega) with rfl | rfl
      · rw [if_neg (show ¬ nI 0 = (1 : Int32) by decide)]
        refine ⟨_, lit, _, ref, rfl, demR_1 hd, b1, or_lt12 b2 hm, b3, fun p hp => ?_⟩
        rw [sat_dark, he p]
        unfold fstN
        rw [bit_is]
        cases p.testBit ((M 0 + t) % 12)
        · simp
        · have : ¬ nI 0 = nI 1 := by decide
          simp [this]
      · rw [if_pos (show nI 1 = (1 : Int32) from rfl)]
        refine ⟨_, _, dark, ref, rfl, demR_0 hd, or_lt12 b1 hm, b2, b3, fun p hp => ?_⟩
        rw [sat_lit, he p]
        unfold fstN
        rw [bit_is]
        cases p.testBit ((M 0 + t) % 12)
        · have : ¬ nI 1 = nI 0 := by decide
          simp [this]
        · simp
    unfold f_X2_ticksToSource
    rw [hl.2.2.1, hl.2.1]
    by_cases c : M 5 = 1
    · have c' : nI (M 5) = (1 : Int32) := by rw [c]; rfl
      rw [if_pos c']
      by_cases d : M 4 ≤ k
      · have p0 : (0 : Int32) ≤ nI (k - M 4) := nI_pos' (by omega)
        rw [pk_sub d, if_pos p0, if_pos p0]
        obtain ⟨r, lit', dark', ref', h1, h2, h3, h4, h5, h6⟩ := ask (k - M 4) (by omega) (fun p => by rw [patC_eq l6 l4, if_pos c, if_pos d])
        exact ⟨r, lit', dark', ref', h1, h2, h3, h4, h5, trivial, h6⟩
      · have pn : ¬ (0 : Int32) ≤ nI k - nI (M 4) := Int32.not_le.mpr (pk_sneg (by omega) (by omega))
        rw [if_neg pn, if_neg pn, l_second hl ⟨l0, l3, l4, l5, l6⟩ hT, hd.2.2]
        have he : ∀ p, patC M p k = sndN (tk M k) := fun p => by
          rw [patC_eq l6 l4, if_pos c, if_neg d, sndN_tk M k l6 l4]
          unfold secA
          rw [if_pos c, if_neg d]
        have hs2 := sndN_lt (tk M k)
        have o0 : ∀ x, x < 2 → (nI x ||| 0 : Int32) = nI x := fun x _ => or_0 _
        have o1 : ∀ x, x < 2 → (nI x ||| 1 : Int32) = nI 1 := by decide
        have nb : ∀ x, x < 2 → (narrow .boolean (.int (nI x)) = .int (nI x) ∧ fits .boolean (.int (nI x)) = true) := by
          intro x hx
          rcases (show x = 0 ∨ x = 1 by omega) with rfl | rfl <;> exact ⟨rfl, rfl⟩
        rw [o0 ref b3, o1 ref b3]
        by_cases e : nI b = nI (sndN (tk M k))
        · rw [if_pos e, if_pos e]
          refine ⟨_, lit, dark, ref, rfl, demR_2 hd, b1, b2, b3, ⟨nb ref b3, trivial⟩, fun p hp => ?_⟩
          rw [he p]
          simp [e]
        · rw [if_neg e, if_neg e]
          refine ⟨_, lit, dark, 1, rfl, demR_2 hd, b1, b2, by decide, ⟨nb 1 (by decide), trivial⟩, fun p hp => ?_⟩
          rw [he p]
          simp [e]
    · have c0 : M 5 = 0 := by omega
      have c' : ¬ nI (M 5) = (1 : Int32) := by rw [c0]; decide
      have p0 : (0 : Int32) ≤ nI k := nI_pos' (by omega)
      rw [if_neg c', if_pos p0, if_pos p0]
      obtain ⟨r, lit', dark', ref', h1, h2, h3, h4, h5, h6⟩ := ask k hT (fun p => by rw [patC_eq l6 l4, if_neg c])
      exact ⟨r, lit', dark', ref', h1, h2, h3, h4, h5, trivial, h6⟩
theorem l_hear {N t n T : Nat} {M : Nat → Nat} {g : Nat → Int32} (ok : okL T M) (hT : M 0 + 50 ≤ 99999) (hn : n ≤ 40) (ht : t ≠ 48) (ht2 : t + 1 ≠ 48) : ∀ d k fuel lit dark ref (τ : tw_T), k + d = n → d < fuel → litR (τ 2) M → τ t 2 = nI n → (∀ j, j < 40 → τ (t + 1) j = g j) → demR (τ 48) lit dark ref → lit < 4096 → dark < 4096 → ref < 2 → (∀ p, p < 4096 → okAll g (patC M p) n 0 = (decide (ref = 0) && satB p lit dark && okAll g (patC M p) d k)) →
    ∃ r lit' dark' ref', lg_X0_hear_17 N t 2 fuel (nI k) τ = tw_sr τ 48 r ∧ demR r lit' dark' ref' ∧ lit' < 4096 ∧ dark' < 4096 ∧ ref' < 2 ∧ lo_X0_hear_17 N t 2 fuel (nI k) τ ∧ ∀ p, p < 4096 → okAll g (patC M p) n 0 = (decide (ref' = 0) && satB p lit' dark') := by
  intro d
  induction d with
  | zero =>
    intro k fuel lit dark ref τ hk hf hl h1 h2 hd b1 b2 b3 hinv
    obtain ⟨u, rfl⟩ : ∃ u, fuel = u + 1 := ⟨fuel - 1, by omega⟩
    have e : k = n := by omega
    subst e
    have hle : nI k ≤ nI k := nI_le (Nat.le_refl k) (by omega)
    rw [lg_X0_hear_17, lo_X0_hear_17, h1, if_pos hle, if_pos hle]
    refine ⟨τ 48, lit, dark, ref, (sr_id τ 48).symm, hd, b1, b2, b3, trivial, fun p hp => ?_⟩
    rw [hinv p hp]
    show (_ && true) = _
    rw [Bool.and_true]
  | succ d ih =>
    intro k fuel lit dark ref τ hk hf hl h1 h2 hd b1 b2 b3 hinv
    obtain ⟨u, rfl⟩ : ∃ u, fuel = u + 1 := ⟨fuel - 1, by omega⟩
    have hgt := nI_ge (show k < n by omega) (show n < 2 ^ 31 by omega)
    have hv : vp_in (nI k) 40 := vp_in_nI (by omega) (by decide)
    rw [lg_X0_hear_17, lo_X0_hear_17, h1, if_neg hgt, if_neg hgt, nI_clamp (by omega), h2 k (by omega), nI_1]
    by_cases c : g k = -1
    · rw [if_pos c, if_pos c]
      obtain ⟨r, lit', dark', ref', a1, a2, a3, a4, a5, a6, a7⟩ := ih (k + 1) u lit dark ref τ (by omega) (by omega) hl h1 h2 hd b1 b2 b3 (fun p hp => by
        rw [hinv p hp]
        have eo : okAll g (patC M p) (d + 1) k = okAll g (patC M p) d (k + 1) := if_pos (Or.inl c)
        rw [eo])
      exact ⟨r, lit', dark', ref', a1, a2, a3, a4, a5, ⟨hv, a6⟩, a7⟩
    · rw [if_neg c, if_neg c]
      obtain ⟨r, lit1, dark1, ref1, o1, o2, o3, o4, o5, o6, o7⟩ := c_one (v := g k) (k := k) hl ok (by omega) hd b1 b2 b3
      rw [o1]
      obtain ⟨r', lit', dark', ref', a1, a2, a3, a4, a5, a6, a7⟩ := ih (k + 1) u lit1 dark1 ref1 (tw_sr τ 48 r) (by omega) (by omega) (by rw [sr_ne (by decide)]; exact hl) (by rw [sr_ne ht]; exact h1) (fun j hj => by rw [sr_ne ht2]; exact h2 j hj) (by rw [sr_self]; exact o2) o3 o4 o5 (fun p hp => by
        rw [hinv p hp, o7 p hp]
        by_cases e : g k = nI (patC M p k)
        · have eo : okAll g (patC M p) (d + 1) k = okAll g (patC M p) d (k + 1) := if_pos (Or.inr e)
          rw [eo]
          simp [e]
        · have eo : okAll g (patC M p) (d + 1) k = false := if_neg (fun q => q.elim c e)
          rw [eo]
          simp [e])
      exact ⟨r', lit', dark', ref', by rw [a1, sr_sr], a2, a3, a4, a5, ⟨hv, hv, o6, a6⟩, a7⟩
theorem c_hear {N t n T : Nat} {M : Nat → Nat} {g : Nat → Int32} {τ : tw_T} (ok : okL T M) (hT : M 0 + 50 ≤ 99999) (hn : n ≤ 40) (ht : t ≠ 48) (ht2 : t + 1 ≠ 48) (hN : 50 ≤ N) (hl : litR (τ 2) M) (h1 : τ t 2 = nI n) (h2 : ∀ j, j < 40 → τ (t + 1) j = g j) :
    ∃ r lit dark ref, g_X0_hear N t 2 τ = tw_sr τ 48 r ∧ demR r lit dark ref ∧ lit < 4096 ∧ dark < 4096 ∧ ref < 2 ∧ p_X0_hear N t 2 τ ∧ ∀ p, p < 4096 → okAll g (patC M p) n 0 = (decide (ref = 0) && satB p lit dark) := by
  unfold g_X0_hear p_X0_hear
  simp only [sr_self, sr_sr]
  obtain ⟨r, lit, dark, ref, a1, a2, a3, a4, a5, a6, a7⟩ := l_hear (N := N) (g := g) ok hT hn ht ht2 n 0 N 0 0 0 (tw_sr τ 48 (upd (upd (upd (τ 48) 0 0) 1 0) 2 0)) (by omega) (by omega) (by rw [sr_ne (by decide)]; exact hl) (by rw [sr_ne ht]; exact h1) (fun j hj => by rw [sr_ne ht2]; exact h2 j hj) (by
    rw [sr_self]
    exact ⟨by rw [pk_un (by decide), pk_un (by decide), pk_us]; rfl, by rw [pk_un (by decide), pk_us]; rfl, by rw [pk_us]; rfl⟩) (by decide) (by decide) (by decide) (fun p hp => by
    have : satB p 0 0 = true := by unfold satB; simp
    rw [this]
    simp)
  exact ⟨r, lit, dark, ref, by rw [show lg_X0_hear_17 N t 2 N 0 (tw_sr τ 48 (upd (upd (upd (τ 48) 0 0) 1 0) 2 0)) = _ from a1, sr_sr], a2, a3, a4, a5, a6, a7⟩
theorem Inv_dem {c : Nat} {τ : tw_T} {r : Nat → Int32} {ref : Nat} (hI : Inv c τ) (h2 : r 2 = nI ref) (hr : ref < 2) : Inv c (tw_sr τ 48 r) := by
  obtain ⟨h0, h1, h2', h3, h4, h5, h6⟩ := hI
  have e : ∀ q, q ≠ 48 → (tw_sr τ 48 r) q = τ q := fun q a => sr_ne a
  refine ⟨h0, I_sea_congr (fun q a b => e q (by omega)) (e _ (by decide)) h1, I_kept_congr (by rw [e _ (by decide)]) (by rw [e _ (by decide)]) (fun q a b => e q (by omega)) (e _ (by decide)) h2', I_tape_congr (by rw [e _ (by decide)]) (by rw [e _ (by decide)]) (e _ (by decide)) (e _ (by decide)) h3, I_sheet_congr (fun q a b => e q (by omega)) (e _ (by decide)) (e _ (by decide)) (e _ (by decide)) h4, I_fnd_congr (e _ (by decide)) (e _ (by decide)) h5, ?_⟩
  unfold I_dem
  rw [sr_self, h2]
  rcases (show ref = 0 ∨ ref = 1 by omega) with rfl | rfl
  · exact Or.inl rfl
  · exact Or.inr rfl
/-! the reference counts and seeks -/
theorem ml_fits {N s n T : Nat} {M : Nat → Nat} {g : Nat → Int32} {τ : tw_T} (hs : s < 4) (hn : n ≤ 40) (ok : okT T M) (hT : T < 2 ^ 29) (hN : 50 ≤ N) (row : rowT (τ 191) M) (h1 : τ 199 s = nI n) (h2 : ∀ j, j < 40 → τ 200 (40 * s + j) = g j) : ∀ d k fuel, k + d = 4096 → d < fuel →
    lf_X9_fits_24 N fuel (nI s) (nI (cntP (fun p => okAll g (patC M p) n 0) k)) (nI k) τ = nI (cntP (fun p => okAll g (patC M p) n 0) 4096) ∧ lg_X9_fits_24 N fuel (nI s) (nI (cntP (fun p => okAll g (patC M p) n 0) k)) (nI k) τ = τ ∧ lo_X9_fits_24 N fuel (nI s) (nI (cntP (fun p => okAll g (patC M p) n 0) k)) (nI k) τ := by
  obtain ⟨l0, l3, l4, l5, l6⟩ := okT_L ok
  intro d
  induction d with
  | zero =>
    intro k fuel hk hf
    obtain ⟨u, rfl⟩ : ∃ u, fuel = u + 1 := ⟨fuel - 1, by omega⟩
    have e : k = 4096 := by omega
    subst e
    have hle : (4096 : Int32) ≤ nI 4096 := by decide
    rw [lf_X9_fits_24, lg_X9_fits_24, lo_X9_fits_24, if_pos hle, if_pos hle, if_pos hle]
    exact ⟨rfl, rfl, trivial⟩
  | succ d ih =>
    intro k fuel hk hf
    obtain ⟨u, rfl⟩ : ∃ u, fuel = u + 1 := ⟨fuel - 1, by omega⟩
    have hgt : ¬ (4096 : Int32) ≤ nI k := nI_ge (a := k) (b := 4096) (by omega) (by decide)
    obtain ⟨e1, e2⟩ := m_iss (N := N) (g := g) (p := k) (lag := M 4) hs hn (by omega) l4 row l6 l5 (by omega) h1 h2 hN
    have e1' : f_X9_isShownSo N (nI s) (nI k) (nI (M 4)) τ = boolI (okAll g (patC M k) n 0) := e1
    rw [lf_X9_fits_24, lg_X9_fits_24, lo_X9_fits_24, if_neg hgt, if_neg hgt, if_neg hgt, row 4 (by decide) (by decide), e1', Int32.add_zero, nI_1, nI_1]
    obtain ⟨a1, a2, a3⟩ := ih (k + 1) u (by omega) (by omega)
    by_cases c : okAll g (patC M k) n 0 = true
    · have c' : ¬ boolI (okAll g (patC M k) n 0) = 0 := by rw [boolI_0, c]; decide
      have eS : cntP (fun p => okAll g (patC M p) n 0) (k + 1) = cntP (fun p => okAll g (patC M p) n 0) k + 1 := by
        show cntP _ k + (if okAll g (patC M k) n 0 then 1 else 0) = _
        rw [if_pos c]
      rw [eS] at a1 a2 a3
      rw [if_neg c', if_neg c', if_neg c']
      exact ⟨a1, a2, e2, a3⟩
    · have c' : boolI (okAll g (patC M k) n 0) = 0 := by rw [boolI_0]; simpa using c
      have eS : cntP (fun p => okAll g (patC M p) n 0) (k + 1) = cntP (fun p => okAll g (patC M p) n 0) k := by
        show cntP _ k + (if okAll g (patC M k) n 0 then 1 else 0) = _
        rw [if_neg c, Nat.add_zero]
      rw [eS] at a1 a2 a3
      rw [if_pos c', if_pos c', if_pos c']
      exact ⟨a1, a2, e2, a3⟩
theorem ml_pattern {N s n T : Nat} {M : Nat → Nat} {g : Nat → Int32} {τ : tw_T} (hs : s < 4) (hn : n ≤ 40) (ok : okT T M) (hT : T < 2 ^ 29) (hN : 50 ≤ N) (row : rowT (τ 191) M) (h1 : τ 199 s = nI n) (h2 : ∀ j, j < 40 → τ 200 (40 * s + j) = g j) : ∀ d k fuel, k + d = 4096 → d < fuel →
    lf_X9_pattern_22 N fuel (nI s) (nI k) τ = resI (seek (fun p => okAll g (patC M p) n 0) d k) ∧ lg_X9_pattern_22 N fuel (nI s) (nI k) τ = (if (seek (fun p => okAll g (patC M p) n 0) d k).isSome then τ else g_X9_finding (-1000004) τ) ∧ lo_X9_pattern_22 N fuel (nI s) (nI k) τ := by
  obtain ⟨l0, l3, l4, l5, l6⟩ := okT_L ok
  have n1 : ¬ (0 : Int32) ≤ -1 := by decide
  intro d
  induction d with
  | zero =>
    intro k fuel hk hf
    obtain ⟨u, rfl⟩ : ∃ u, fuel = u + 1 := ⟨fuel - 1, by omega⟩
    have e : k = 4096 := by omega
    subst e
    have hle : (4096 : Int32) ≤ nI 4096 := by decide
    rw [lf_X9_pattern_22, lg_X9_pattern_22, lo_X9_pattern_22]
    unfold f_X9_orNone g_X9_orNone p_X9_orNone
    simp only [hle, n1, if_true, if_false]
    exact ⟨rfl, rfl, ⟨pfN τ, trivial⟩, trivial⟩
  | succ d ih =>
    intro k fuel hk hf
    obtain ⟨u, rfl⟩ : ∃ u, fuel = u + 1 := ⟨fuel - 1, by omega⟩
    have hgt : ¬ (4096 : Int32) ≤ nI k := nI_ge (a := k) (b := 4096) (by omega) (by decide)
    have p0 : (0 : Int32) ≤ nI k := nI_pos' (by omega)
    obtain ⟨e1, e2⟩ := m_iss (N := N) (g := g) (p := k) (lag := M 4) hs hn (by omega) l4 row l6 l5 (by omega) h1 h2 hN
    have e1' : f_X9_isShownSo N (nI s) (nI k) (nI (M 4)) τ = boolI (okAll g (patC M k) n 0) := e1
    rw [lf_X9_pattern_22, lg_X9_pattern_22, lo_X9_pattern_22, row 4 (by decide) (by decide), e1', nI_1]
    unfold f_X9_orNone g_X9_orNone p_X9_orNone
    by_cases c : okAll g (patC M k) n 0 = true
    · have c' : ¬ boolI (okAll g (patC M k) n 0) = 0 := by rw [boolI_0, c]; decide
      have eS : seek (fun p => okAll g (patC M p) n 0) (d + 1) k = some k := if_pos c
      rw [eS]
      simp only [hgt, c', p0, if_true, if_false]
      exact ⟨rfl, rfl, e2, trivial, trivial⟩
    · have c' : boolI (okAll g (patC M k) n 0) = 0 := by rw [boolI_0]; simpa using c
      have eS : seek (fun p => okAll g (patC M p) n 0) (d + 1) k = seek (fun p => okAll g (patC M p) n 0) d (k + 1) := if_neg c
      obtain ⟨a1, a2, a3⟩ := ih (k + 1) u (by omega) (by omega)
      rw [eS]
      simp only [hgt, c', if_true, if_false]
      exact ⟨a1, a2, e2, a3⟩
theorem seek_none {p : Nat → Bool} : ∀ d i, (∀ n, i ≤ n → n < i + d → p n = false) → seek p d i = none
  | 0, _, _ => rfl
  | d + 1, i, h => by
    show (if p i then _ else _) = _
    rw [h i (Nat.le_refl i) (by omega), seek_none d (i + 1) (fun n a b => h n (by omega) (by omega))]
    rfl
theorem seek_some {p : Nat → Bool} {x : Nat} (hx : p x = true) : ∀ d i, i ≤ x → x < i + d → (∀ n, i ≤ n → n < x → p n = false) → seek p d i = some x
  | 0, i, h1, h2, _ => absurd h2 (by omega)
  | d + 1, i, h1, h2, h => by
    show (if p i then _ else _) = _
    by_cases e : i = x
    · rw [e, hx]; rfl
    · rw [h i (Nat.le_refl i) (by omega), seek_some hx d (i + 1) (by omega) (by omega) (fun n a b => h n (by omega) b)]
      rfl
theorem met_eq {r : Nat → Int32} {lit dark ref : Nat} {τ : tw_T} (hd : demR r lit dark ref) (b1 : lit < 4096) (b2 : dark < 4096) (b3 : ref < 2) : f_X0_canBeMet (tw_sr τ 48 r) = 0 ↔ ¬ (ref = 0 ∧ lit &&& dark = 0) := by
  unfold f_X0_canBeMet
  have hle : lit &&& dark ≤ lit := Nat.and_le_left
  rw [sr_self, hd.1, hd.2.1, hd.2.2, q_and]
  rcases (show ref = 0 ∨ ref = 1 by omega) with rfl | rfl
  · rw [if_pos (show nI 0 = (0 : Int32) from rfl)]
    by_cases c : lit &&& dark = 0
    · rw [c, if_pos (show nI 0 = (0 : Int32) from rfl)]
      simp
    · have : ¬ nI (lit &&& dark) = 0 := nI_ne0 (Nat.pos_of_ne_zero c) (by omega)
      rw [if_neg this]
      simp [c]
  · rw [if_neg (show ¬ nI 1 = (0 : Int32) by decide)]
    simp
theorem st_fits {c N : Nat} {τ : tw_T} (hI : Inv c τ) (hc : c < 512) (hN : 5000 ≤ N) (x1 : Int32) : p_X8_fits N x1 τ ∧ p_X9_fits N x1 (g_X8_fits N x1 τ) ∧ f_X8_fits N x1 τ = f_X9_fits N x1 (g_X8_fits N x1 τ) ∧ Inv (c + 1) (g_X9_fits N x1 (g_X8_fits N x1 τ)) := by
  unfold p_X8_fits p_X9_fits f_X9_fits g_X9_fits f_X8_fits g_X8_fits
  rcases trouble_or hI x1 with ⟨t1, t2, t3⟩ | ⟨s, hs, rfl, t1, t2, t3, t4⟩ | ⟨s, hs, rfl, t1, t2, t3, t4⟩
  · obtain ⟨q1, q2, q3⟩ := fail_tr hI hc (F := -1000001) (Or.inl rfl)
    obtain ⟨l1, l2⟩ := lacks_B (x2 := 1) (t3 (g_X8_found (-1000001) τ))
    simp only [t1, q3, l1, if_false]
    exact ⟨⟨t2, trivial⟩, ⟨l2, l2, q1, trivial⟩, rfl, q2⟩
  · obtain ⟨q1, q2, q3⟩ := fail_tr hI hc (F := -1000006) (Or.inr rfl)
    obtain ⟨l1, l2⟩ := lacks_M (x2 := 1) hs (t4 (g_X8_found (-1000006) τ)) (by rw [found_ne (by decide)]; exact t3)
    simp only [t1, q3, l1, if_false]
    exact ⟨⟨t2, trivial⟩, ⟨l2, l2, q1, trivial⟩, rfl, q2⟩
  · obtain ⟨M, ok, row, spt, ⟨hl, hn, hsh⟩, hz⟩ := inv_M hI
    have hM0 := ok.1
    obtain ⟨i1, i2, i3, ⟨n, hn', i4⟩, i5⟩ := hI.2.2.2.2.1 s hs
    have es : (nI s).toNatClampNeg = s := nI_clamp (by omega)
    have vs : vp_in (nI s) 4 := vp_in_nI hs (by decide)
    obtain ⟨r, lit, dark, ref, k1, k2, k3, k4, k5, k6, k7⟩ := c_hear (N := N) (t := 182 + 2 * s) (n := n) (M := M) (T := 60 * c) (g := fun j => τ 200 (40 * s + j)) (τ := τ) (okT_L ok) (by omega) hn' (by omega) (by omega) (by omega) hl (i2.trans i4) (fun j hj => i5 j hj)
    simp only [t1, es, k1, if_true]
    have gq : ∀ q, q ≠ 48 → (tw_sr τ 48 r) q = τ q := fun q h => sr_ne h
    obtain ⟨l1, l2⟩ := lacks_0 (x2 := 1) (τ := tw_sr τ 48 r) hs (t4 _) (by rw [gq 198 (by decide)]; exact t3) (by decide)
    obtain ⟨b1, b2, b3⟩ := ml_fits (N := N) (s := s) (n := n) (g := fun j => τ 200 (40 * s + j)) (τ := tw_sr τ 48 r) hs hn' ok (by omega) (by omega) (by rw [gq 191 (by decide)]; exact row) (by rw [gq 199 (by decide)]; exact i4) (fun j hj => by rw [gq 200 (by decide)]) 4096 0 N (by omega) (by omega)
    have b1' : lf_X9_fits_24 N N (nI s) 0 0 (tw_sr τ 48 r) = _ := b1
    have b2' : lg_X9_fits_24 N N (nI s) 0 0 (tw_sr τ 48 r) = _ := b2
    simp only [l1, if_true, b2']
    refine ⟨⟨t2, vs, k6, trivial⟩, ⟨l2, b3⟩, ?_, Inv_mono (Inv_dem hI k2.2.2 k5) hc⟩
    have ec : cntP (fun p => okAll (fun j => τ 200 (40 * s + j)) (patC M p) n 0) 4096 = if ref = 0 ∧ lit &&& dark = 0 then 2 ^ (12 - pcN 12 (lit ||| dark)) else 0 := by
      rw [cntP_cong 4096 (fun p hp => k7 p hp)]
      by_cases z : ref = 0
      · have : cntP (fun p => decide (ref = 0) && satB p lit dark) 4096 = cntP (fun p => satB p lit dark) (2 ^ 12) := cntP_cong _ (fun p _ => by simp [z])
        rw [this, cnt_sat 12 lit dark k3 k4]
        by_cases w : lit &&& dark = 0
        · rw [if_pos w, if_pos ⟨z, w⟩]
        · rw [if_neg w, if_neg (fun q => w q.2)]
      · have : cntP (fun p => decide (ref = 0) && satB p lit dark) 4096 = cntP (fun _ => false) 4096 := cntP_cong _ (fun p _ => by simp [z])
        rw [this, cntP_false, if_neg (fun q => z q.1)]
    rw [show lf_X9_fits_24 N N (nI s) 0 0 (tw_sr τ 48 r) = nI (cntP (fun p => okAll (fun j => τ 200 (40 * s + j)) (patC M p) n 0) 4096) from b1, ec]
    have hm := met_eq (τ := τ) k2 k3 k4 k5
    have hor : lit ||| dark < 4096 := Nat.or_lt_two_pow (n := 12) k3 k4
    by_cases w : ref = 0 ∧ lit &&& dark = 0
    · have hmm : ¬ f_X0_canBeMet (tw_sr τ 48 r) = 0 := fun q => hm.mp q w
      rw [if_neg hmm, if_pos w]
      have p12 : pcN 24 (lit ||| dark) = pcN 12 (lit ||| dark) := by
        have h1 := pcN_add 12 0 12 (lit ||| dark) hor
        rw [Nat.mul_zero, Nat.add_zero, pcN_0, Nat.add_zero] at h1
        exact h1
      have ple := pcN_le 12 (lit ||| dark)
      have ef : f_X0_freeBits (tw_sr τ 48 r) = nI (12 - pcN 12 (lit ||| dark)) := by
        unfold f_X0_freeBits
        rw [sr_self, k2.1, k2.2.1, q_or, c_bits (by omega), p12, q_12, pk_sub ple]
      rw [ef, q_bit (by omega)]
    · have hmm : f_X0_canBeMet (tw_sr τ 48 r) = 0 := hm.mpr w
      rw [if_pos hmm, if_neg w]
      rfl
theorem st_pattern {c N : Nat} {τ : tw_T} (hI : Inv c τ) (hc : c < 512) (hN : 5000 ≤ N) (x1 : Int32) : p_X8_pattern N x1 τ ∧ p_X9_pattern N x1 (g_X8_pattern N x1 τ) ∧ f_X8_pattern N x1 τ = f_X9_pattern N x1 (g_X8_pattern N x1 τ) ∧ Inv (c + 1) (g_X9_pattern N x1 (g_X8_pattern N x1 τ)) := by
  unfold p_X8_pattern p_X9_pattern f_X9_pattern g_X9_pattern f_X8_pattern g_X8_pattern
  rcases trouble_or hI x1 with ⟨t1, t2, t3⟩ | ⟨s, hs, rfl, t1, t2, t3, t4⟩ | ⟨s, hs, rfl, t1, t2, t3, t4⟩
  · obtain ⟨q1, q2, q3⟩ := fail_tr hI hc (F := -1000001) (Or.inl rfl)
    obtain ⟨l1, l2⟩ := lacks_B (x2 := 1) (t3 (g_X8_found (-1000001) τ))
    simp only [t1, q3, l1, if_false]
    exact ⟨⟨t2, trivial⟩, ⟨l2, l2, q1, trivial⟩, rfl, q2⟩
  · obtain ⟨q1, q2, q3⟩ := fail_tr hI hc (F := -1000006) (Or.inr rfl)
    obtain ⟨l1, l2⟩ := lacks_M (x2 := 1) hs (t4 (g_X8_found (-1000006) τ)) (by rw [found_ne (by decide)]; exact t3)
    simp only [t1, q3, l1, if_false]
    exact ⟨⟨t2, trivial⟩, ⟨l2, l2, q1, trivial⟩, rfl, q2⟩
  · obtain ⟨M, ok, row, spt, ⟨hl, hn, hsh⟩, hz⟩ := inv_M hI
    have hM0 := ok.1
    obtain ⟨i1, i2, i3, ⟨n, hn', i4⟩, i5⟩ := hI.2.2.2.2.1 s hs
    have es : (nI s).toNatClampNeg = s := nI_clamp (by omega)
    have vs : vp_in (nI s) 4 := vp_in_nI hs (by decide)
    obtain ⟨r, lit, dark, ref, k1, k2, k3, k4, k5, k6, k7⟩ := c_hear (N := N) (t := 182 + 2 * s) (n := n) (M := M) (T := 60 * c) (g := fun j => τ 200 (40 * s + j)) (τ := τ) (okT_L ok) (by omega) hn' (by omega) (by omega) (by omega) hl (i2.trans i4) (fun j hj => i5 j hj)
    simp only [t1, es, k1, if_true]
    have hm := met_eq (τ := τ) k2 k3 k4 k5
    have hId := Inv_dem hI k2.2.2 k5
    by_cases w : ref = 0 ∧ lit &&& dark = 0
    · have hmm : ¬ f_X0_canBeMet (tw_sr τ 48 r) = 0 := fun q => hm.mp q w
      have gq : ∀ q, q ≠ 48 → (tw_sr τ 48 r) q = τ q := fun q h => sr_ne h
      simp only [hmm, if_false]
      obtain ⟨l1, l2⟩ := lacks_0 (x2 := 1) (τ := tw_sr τ 48 r) hs (t4 _) (by rw [gq 198 (by decide)]; exact t3) (by decide)
      obtain ⟨b1, b2, b3⟩ := ml_pattern (N := N) (s := s) (n := n) (g := fun j => τ 200 (40 * s + j)) (τ := tw_sr τ 48 r) hs hn' ok (by omega) (by omega) (by rw [gq 191 (by decide)]; exact row) (by rw [gq 199 (by decide)]; exact i4) (fun j hj => by rw [gq 200 (by decide)]) 4096 0 N (by omega) (by omega)
      have sk : seek (fun p => okAll (fun j => τ 200 (40 * s + j)) (patC M p) n 0) 4096 0 = some lit := by
        refine seek_some ?_ 4096 0 (Nat.zero_le _) (by omega) (fun q _ hq => ?_)
        · rw [k7 lit k3, w.1]
          unfold satB
          rw [Nat.and_self, w.2]
          simp
        · rw [k7 q (by omega)]
          have : satB q lit dark = false := by
            unfold satB
            have hne : ¬ (q &&& lit = lit) := fun e => by
              have : q &&& lit ≤ q := Nat.and_le_left
              omega
            simp [hne]
          rw [this]
          simp
      rw [sk] at b1 b2
      have b1' : lf_X9_pattern_22 N N (nI s) 0 (tw_sr τ 48 r) = nI lit := b1
      have b2' : lg_X9_pattern_22 N N (nI s) 0 (tw_sr τ 48 r) = tw_sr τ 48 r := b2
      simp only [l1, if_true, b1', b2']
      refine ⟨⟨t2, vs, k6, trivial⟩, ⟨l2, b3⟩, ?_, Inv_mono hId hc⟩
      rw [sr_self]
      exact k2.1
    · have hmm : f_X0_canBeMet (tw_sr τ 48 r) = 0 := hm.mpr w
      simp only [hmm, if_true]
      obtain ⟨q1, q2⟩ := fail_N hId hc
      have gq : ∀ q, q ≠ 48 → q ≠ 30 → (g_X8_found (-1000004) (tw_sr τ 48 r)) q = τ q := fun q h h2 => by rw [found_ne h2, sr_ne h]
      generalize hG : g_X8_found (-1000004) (tw_sr τ 48 r) = G at *
      obtain ⟨l1, l2⟩ := lacks_0 (x2 := 1) (τ := G) hs (t4 _) (by rw [gq 198 (by decide) (by decide)]; exact t3) (by decide)
      obtain ⟨b1, b2, b3⟩ := ml_pattern (N := N) (s := s) (n := n) (g := fun j => τ 200 (40 * s + j)) (τ := G) hs hn' ok (by omega) (by omega) (by rw [gq 191 (by decide) (by decide)]; exact row) (by rw [gq 199 (by decide) (by decide)]; exact i4) (fun j hj => by rw [gq 200 (by decide) (by decide)]) 4096 0 N (by omega) (by omega)
      have sk : seek (fun p => okAll (fun j => τ 200 (40 * s + j)) (patC M p) n 0) 4096 0 = none := by
        refine seek_none 4096 0 (fun q _ hq => ?_)
        rw [k7 q (by omega)]
        by_cases z : ref = 0
        · have hand : ¬ lit &&& dark = 0 := fun e => w ⟨z, e⟩
          have : satB q lit dark = false := by
            unfold satB
            by_cases e : q &&& lit = lit
            · have hne : ¬ q &&& dark = 0 := by
                intro e2
                apply hand
                have : lit &&& dark = lit &&& (q &&& dark) := by
                  rw [← Nat.and_assoc, Nat.and_comm lit q, e]
                rw [this, e2, Nat.and_zero]
              simp [hne]
            · simp [e]
          rw [this]
          simp
        · simp [z]
      rw [sk] at b1 b2
      have b1' : lf_X9_pattern_22 N N (nI s) 0 G = -1000004 := b1
      have b2' : lg_X9_pattern_22 N N (nI s) 0 G = g_X9_finding (-1000004) G := b2
      simp only [l1, if_true, b1', b2']
      exact ⟨⟨t2, vs, k6, trivial⟩, ⟨l2, b3⟩, trivial, q2⟩
