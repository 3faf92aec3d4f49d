/-! ===== the calls: lags, kinds ===== -/
def okAll (g : Nat → Int32) (c : Nat → Nat) : Nat → Nat → Bool
  | 0, _ => true
  | d + 1, k => if g k = -1 ∨ g k = nI (c k) then okAll g c d (k + 1) else false
def boolI (b : Bool) : Int32 := if b then 1 else 0
theorem boolI_0 (b : Bool) : boolI b = 0 ↔ b = false := by cases b <;> simp [boolI]
theorem okAll_cong {g : Nat → Int32} {c c' : Nat → Nat} : ∀ d k, (∀ j, k ≤ j → j < k + d → c j = c' j) → okAll g c d k = okAll g c' d k
  | 0, _, _ => rfl
  | d + 1, k, h => by
    unfold okAll
    rw [h k (Nat.le_refl k) (by omega), okAll_cong d (k + 1) (fun j a b => h j (by omega) (by omega))]
theorem l_ssa {N t kk n T : Nat} {M : Nat → Nat} {g : Nat → Int32} {τ : tw_T} (hl : litR (τ kk) M) (ok : okL T M) (hT : M 0 + 40 ≤ 99999) (hn : n ≤ 40) (h1 : τ t 2 = nI n) (h2 : ∀ j, j < 40 → τ (t + 1) j = g j) : ∀ d k fuel, k + d = n → d < fuel →
    lf_X8_secondShowsAs_2 N t kk fuel (nI k) τ = boolI (okAll g (fun j => sndN (tk M j)) d k) ∧ lo_X8_secondShowsAs_2 N t kk fuel (nI k) τ := by
  intro d
  induction d with
  | zero =>
    intro k fuel hk hf
    obtain ⟨u, rfl⟩ : ∃ u, fuel = u + 1 := ⟨fuel - 1, by omega⟩
    have e : k = n := by omega
    subst e
    have hle : nI k ≤ nI k := nI_le (Nat.le_refl k) (by omega)
    rw [lf_X8_secondShowsAs_2, lo_X8_secondShowsAs_2, h1, if_pos hle, if_pos hle]
    exact ⟨rfl, trivial⟩
  | succ d ih =>
    intro k fuel hk hf
    obtain ⟨u, rfl⟩ : ∃ u, fuel = u + 1 := ⟨fuel - 1, by omega⟩
    have hgt := nI_ge (show k < n by omega) (show n < 2 ^ 31 by omega)
    have hv : vp_in (nI k) 40 := vp_in_nI (by omega) (by decide)
    rw [lf_X8_secondShowsAs_2, lo_X8_secondShowsAs_2, h1, if_neg hgt, if_neg hgt, nI_clamp (by omega), h2 k (by omega), l_second hl ok (by omega), nI_1]
    obtain ⟨a1, a2⟩ := ih (k + 1) u (by omega) (by omega)
    by_cases c1 : g k = -1
    · have eo : okAll g (fun j => sndN (tk M j)) (d + 1) k = okAll g (fun j => sndN (tk M j)) d (k + 1) := if_pos (Or.inl c1)
      rw [eo, if_pos c1, if_pos c1]
      exact ⟨a1, hv, a2⟩
    · rw [if_neg c1, if_neg c1]
      by_cases c2 : g k = nI (sndN (tk M k))
      · have eo : okAll g (fun j => sndN (tk M j)) (d + 1) k = okAll g (fun j => sndN (tk M j)) d (k + 1) := if_pos (Or.inr c2)
        rw [eo, if_pos c2, if_pos c2]
        exact ⟨a1, hv, a2⟩
      · have eo : okAll g (fun j => sndN (tk M j)) (d + 1) k = false := if_neg (fun q => q.elim c1 c2)
        rw [eo, if_neg c2, if_neg c2]
        exact ⟨rfl, hv, trivial⟩
theorem ml_iss {N s n p lag : Nat} {M : Nat → Nat} {g : Nat → Int32} {τ : tw_T} (hs : s < 4) (hn : n ≤ 40) (hp : p < 4096) (hlag : lag < 24) (row : rowT (τ 191) M) (h6 : M 6 < 16777216) (h5 : M 5 < 2) (h0 : M 0 < 2 ^ 29) (h1 : τ 199 s = nI n) (h2 : ∀ j, j < 40 → τ 200 (40 * s + j) = g j) : ∀ d k fuel, k + d = n → d + 1 < fuel →
    lf_X9_isShownSo_15 N fuel (nI s) (nI p) (nI lag) (nI (tk (mU (mU M 3 p) 4 lag) k 6)) 1 (nI k) τ = boolI (okAll g (fun j => sndN (tk (mU (mU M 3 p) 4 lag) j)) d k) ∧ lo_X9_isShownSo_15 N fuel (nI s) (nI p) (nI lag) (nI (tk (mU (mU M 3 p) 4 lag) k 6)) 1 (nI k) τ := by
  have es : (nI s).toNatClampNeg = s := nI_clamp (by omega)
  have vs : vp_in (nI s) 4 := vp_in_nI hs (by decide)
  have n10 : ¬ (1 : Int32) = 0 := by decide
  have m6 : (mU (mU M 3 p) 4 lag) 6 = M 6 := by rw [mU_ne (by decide), mU_ne (by decide)]
  have m5 : (mU (mU M 3 p) 4 lag) 5 = M 5 := by rw [mU_ne (by decide), mU_ne (by decide)]
  have m4 : (mU (mU M 3 p) 4 lag) 4 = lag := mU_self
  have m3 : (mU (mU M 3 p) 4 lag) 3 = p := by rw [mU_ne (by decide), mU_self]
  have m0 : (mU (mU M 3 p) 4 lag) 0 = M 0 := by rw [mU_ne (by decide), mU_ne (by decide)]
  have r0 : τ 191 0 = nI (M 0) := row 0 (by decide) (by decide)
  have r5 : τ 191 5 = nI (M 5) := row 5 (by decide) (by decide)
  intro d
  induction d with
  | zero =>
    intro k fuel hk hf
    obtain ⟨u, rfl⟩ : ∃ u, fuel = u + 1 := ⟨fuel - 1, by omega⟩
    have e : k = n := by omega
    subst e
    have hle : nI k ≤ nI k := nI_le (Nat.le_refl k) (by omega)
    rw [lf_X9_isShownSo_15, lo_X9_isShownSo_15, es, h1, if_pos hle, if_pos hle]
    exact ⟨rfl, vs, rfl, trivial⟩
  | succ d ih =>
    intro k fuel hk hf
    obtain ⟨u, rfl⟩ : ∃ u, fuel = u + 1 := ⟨fuel - 1, by omega⟩
    obtain ⟨w, rfl⟩ : ∃ w, u = w + 1 := ⟨u - 1, by omega⟩
    have hgt := nI_ge (show k < n by omega) (show n < 2 ^ 31 by omega)
    have e40 : (40 : Int32) * nI s + nI k = nI (40 * s + k) := by rw [show (40 : Int32) = nI 40 from rfl, pk_mul, nI_add]
    have e40' : (nI (40 * s + k)).toNatClampNeg = 40 * s + k := nI_clamp (by omega)
    have hv : vp_in (nI (40 * s + k)) 160 := vp_in_nI (by omega) (by decide)
    have pb := (past_bit (mU (mU M 3 p) 4 lag) k (by rw [m6]; exact h6)).1
    have hm : (M 0 + k) % 12 < 12 := Nat.mod_lt _ (by decide)
    have ef : ((nI p >>> (((τ 191 0 + nI k) - (τ 191 0 + nI k) / 12 * 12) &&& 31)) &&& 1 : Int32) = nI (fstN p (M 0 + k)) := by
      rw [r0, nI_add, q_12, pk_rem (by omega) (by decide) (by decide), q_shr (by omega) (by omega), q_1, q_and, Nat.and_one_is_mod]
      rfl
    have fl := fstN_lt p (M 0 + k)
    have e6 : tk (mU (mU M 3 p) 4 lag) (k + 1) 6 = (tk (mU (mU M 3 p) 4 lag) k 6 * 2 + fstN p (M 0 + k)) % 16777216 := by
      show pastN (tk (mU (mU M 3 p) 4 lag) k) = _
      unfold pastN
      rw [tk_lo _ k (j := 3) (by decide) (by decide) (by decide), tk_0, m3, m0]
    have ep : ((nI (tk (mU (mU M 3 p) 4 lag) k 6) * 2 + nI (fstN p (M 0 + k))) - (nI (tk (mU (mU M 3 p) 4 lag) k 6) * 2 + nI (fstN p (M 0 + k))) / 16777216 * 16777216 : Int32) = nI (tk (mU (mU M 3 p) 4 lag) (k + 1) 6) := by
      rw [q_2, pk_mul, nI_add, q_pw, pk_rem (by omega) (by decide) (by decide), e6]
    have pb1 := (past_bit (mU (mU M 3 p) 4 lag) (k + 1) (by rw [m6]; exact h6)).1
    have esn : sndN (tk (mU (mU M 3 p) 4 lag) k) = if M 5 = 1 then tk (mU (mU M 3 p) 4 lag) (k + 1) 6 / 2 ^ lag % 2 else fstN p (M 0 + k) := by
      unfold sndN
      rw [tk_lo _ k (j := 5) (by decide) (by decide) (by decide), tk_lo _ k (j := 4) (by decide) (by decide) (by decide), tk_lo _ k (j := 3) (by decide) (by decide) (by decide), tk_0, m5, m4, m3, m0]
      rfl
    have el : ((nI (tk (mU (mU M 3 p) 4 lag) (k + 1) 6) >>> (nI lag &&& 31)) &&& 1 : Int32) = nI (tk (mU (mU M 3 p) 4 lag) (k + 1) 6 / 2 ^ lag % 2) := by
      rw [q_shr (by omega) (by omega), q_1, q_and, Nat.and_one_is_mod]
    rw [lf_X9_isShownSo_15, lo_X9_isShownSo_15, es, h1, if_neg hgt, if_neg hgt, if_neg n10, if_neg n10, e40, e40', h2 k (by omega), ef, ep, el, r5, nI_1]
    obtain ⟨a1, a2⟩ := ih (k + 1) (w + 1) (by omega) (by omega)
    -- one that is wrong ends the loop
    have stop : lf_X9_isShownSo_15 N (w + 1) (nI s) (nI p) (nI lag) (nI (tk (mU (mU M 3 p) 4 lag) (k + 1) 6)) 0 (nI (k + 1)) τ = 0 ∧ lo_X9_isShownSo_15 N (w + 1) (nI s) (nI p) (nI lag) (nI (tk (mU (mU M 3 p) 4 lag) (k + 1) 6)) 0 (nI (k + 1)) τ := by
      rw [lf_X9_isShownSo_15, lo_X9_isShownSo_15, es, h1]
      by_cases q : nI n ≤ nI (k + 1)
      · rw [if_pos q, if_pos q]; exact ⟨rfl, vs, rfl, trivial⟩
      · rw [if_neg q, if_neg q, if_pos rfl, if_pos rfl]; exact ⟨rfl, vs, rfl, trivial⟩
    by_cases c1 : g k = -1
    · have eo : okAll g (fun j => sndN (tk (mU (mU M 3 p) 4 lag) j)) (d + 1) k = okAll g (fun j => sndN (tk (mU (mU M 3 p) 4 lag) j)) d (k + 1) := if_pos (Or.inl c1)
      rw [eo, if_pos c1, if_pos c1]
      exact ⟨a1, vs, hv, a2⟩
    · rw [if_neg c1, if_neg c1]
      have fin : ∀ y : Nat, sndN (tk (mU (mU M 3 p) 4 lag) k) = y → ((if g k = nI y then lf_X9_isShownSo_15 N (w + 1) (nI s) (nI p) (nI lag) (nI (tk (mU (mU M 3 p) 4 lag) (k + 1) 6)) 1 (nI (k + 1)) τ else lf_X9_isShownSo_15 N (w + 1) (nI s) (nI p) (nI lag) (nI (tk (mU (mU M 3 p) 4 lag) (k + 1) 6)) 0 (nI (k + 1)) τ) = boolI (okAll g (fun j => sndN (tk (mU (mU M 3 p) 4 lag) j)) (d + 1) k)) ∧ (if g k = nI y then lo_X9_isShownSo_15 N (w + 1) (nI s) (nI p) (nI lag) (nI (tk (mU (mU M 3 p) 4 lag) (k + 1) 6)) 1 (nI (k + 1)) τ else lo_X9_isShownSo_15 N (w + 1) (nI s) (nI p) (nI lag) (nI (tk (mU (mU M 3 p) 4 lag) (k + 1) 6)) 0 (nI (k + 1)) τ) := by
        intro y hy
        by_cases c2 : g k = nI y
        · have eo : okAll g (fun j => sndN (tk (mU (mU M 3 p) 4 lag) j)) (d + 1) k = okAll g (fun j => sndN (tk (mU (mU M 3 p) 4 lag) j)) d (k + 1) := if_pos (Or.inr (c2.trans (congrArg nI hy.symm)))
          rw [eo, if_pos c2, if_pos c2]
          exact ⟨a1, a2⟩
        · have eo : okAll g (fun j => sndN (tk (mU (mU M 3 p) 4 lag) j)) (d + 1) k = false := if_neg (fun q => q.elim c1 (fun z => c2 (z.trans (congrArg nI hy))))
          rw [eo, if_neg c2, if_neg c2]
          exact ⟨stop.1, stop.2⟩
      by_cases c5 : M 5 = 1
      · rw [if_pos c5] at esn
        have c5' : nI (M 5) = (1 : Int32) := by rw [c5]; rfl
        obtain ⟨f1, f2⟩ := fin _ esn
        rw [if_pos c5', if_pos c5']
        exact ⟨f1, vs, hv, f2⟩
      · rw [if_neg c5] at esn
        have c50 : M 5 = 0 := by omega
        have c5' : ¬ nI (M 5) = (1 : Int32) := by rw [c50]; decide
        obtain ⟨f1, f2⟩ := fin _ esn
        rw [if_neg c5', if_neg c5']
        exact ⟨f1, vs, hv, f2⟩
theorem m_iss {N s n p lag : Nat} {M : Nat → Nat} {g : Nat → Int32} {τ : tw_T} (hs : s < 4) (hn : n ≤ 40) (hp : p < 4096) (hlag : lag < 24) (row : rowT (τ 191) M) (h6 : M 6 < 16777216) (h5 : M 5 < 2) (h0 : M 0 < 2 ^ 29) (h1 : τ 199 s = nI n) (h2 : ∀ j, j < 40 → τ 200 (40 * s + j) = g j) (hN : 50 ≤ N) :
    f_X9_isShownSo N (nI s) (nI p) (nI lag) τ = boolI (okAll g (fun j => sndN (tk (mU (mU M 3 p) 4 lag) j)) n 0) ∧ p_X9_isShownSo N (nI s) (nI p) (nI lag) τ := by
  have h := ml_iss (N := N) hs hn hp hlag row h6 h5 h0 h1 h2 n 0 N (by omega) (by omega)
  have e : (tk (mU (mU M 3 p) 4 lag) 0 6) = M 6 := by show (mU (mU M 3 p) 4 lag) 6 = M 6; rw [mU_ne (by decide), mU_ne (by decide)]
  rw [e] at h
  unfold f_X9_isShownSo p_X9_isShownSo
  rw [row 6 (by decide) (by decide)]
  exact h
def setI (P : Nat → Bool) : Nat → Int32
  | 0 => 0
  | k + 1 => if P k then setI P k ||| ((1 : Int32) <<< (nI k &&& 31)) else setI P k
theorem mU_id (M : Nat → Nat) (j : Nat) : mU M j (M j) = M := by
  funext q
  by_cases c : q = j
  · subst c; exact mU_self
  · exact mU_ne c
theorem l_lags {N s n T : Nat} {M : Nat → Nat} {g : Nat → Int32} {x2 : Int32} (hs : s < 4) (hn : n ≤ 40) (ok : okT T M) (hT : M 0 + 40 ≤ 99999) (hN : 50 ≤ N) : ∀ d k fuel (τ : tw_T) (w : Nat), k + d = 24 → d < fuel → litR (τ 44) (mU M 4 w) → τ (182 + 2 * s) 2 = nI n → (∀ j, j < 40 → τ (182 + 2 * s + 1) j = g j) →
    lf_X8_lags_35 N fuel (nI s) x2 (setI (fun v => okAll g (fun j => sndN (tk (mU M 4 v) j)) n 0) k) (nI k) τ = setI (fun v => okAll g (fun j => sndN (tk (mU M 4 v) j)) n 0) 24 ∧ (∃ r, lg_X8_lags_35 N fuel (nI s) x2 (setI (fun v => okAll g (fun j => sndN (tk (mU M 4 v) j)) n 0) k) (nI k) τ = tw_sr τ 44 r) ∧ lo_X8_lags_35 N fuel (nI s) x2 (setI (fun v => okAll g (fun j => sndN (tk (mU M 4 v) j)) n 0) k) (nI k) τ := by
  have es : (nI s).toNatClampNeg = s := nI_clamp (by omega)
  have vs : vp_in (nI s) 4 := vp_in_nI hs (by decide)
  intro d
  induction d with
  | zero =>
    intro k fuel τ w hk hf hl h1 h2
    obtain ⟨u, rfl⟩ : ∃ u, fuel = u + 1 := ⟨fuel - 1, by omega⟩
    have e : k = 24 := by omega
    subst e
    have hlt : (23 : Int32) < nI 24 := by decide
    rw [lf_X8_lags_35, lg_X8_lags_35, lo_X8_lags_35, if_pos hlt, if_pos hlt, if_pos hlt]
    exact ⟨rfl, ⟨τ 44, (sr_id τ 44).symm⟩, trivial⟩
  | succ d ih =>
    intro k fuel τ w hk hf hl h1 h2
    obtain ⟨u, rfl⟩ : ∃ u, fuel = u + 1 := ⟨fuel - 1, by omega⟩
    have hnlt : ¬ (23 : Int32) < nI k := nI_nlt (a := 23) (b := k) (by omega) (by decide)
    have okv := okT_mU (j := 4) (v := k) ok (by decide) (by decide) (by decide) (show k < 24 by omega)
    have hl' : litR ((tw_sr τ 44 (upd (τ 44) 1 (nI k))) 44) (mU M 4 k) := by
      rw [sr_self]
      obtain ⟨h0, h1, h2, h3, h4⟩ := hl
      unfold litR at *
      rw [mU_ne (by decide)] at h0 h2 h3 h4
      rw [mU_ne (by decide), mU_self, mU_ne (by decide), mU_ne (by decide), mU_ne (by decide), pk_us]
      exact ⟨by rw [pk_un (by decide)]; exact h0, rfl, by rw [pk_un (by decide)]; exact h2, by rw [pk_un (by decide)]; exact h3, by rw [pk_un (by decide)]; exact h4⟩
    obtain ⟨e1, e2⟩ := l_ssa (N := N) (t := 182 + 2 * s) (kk := 44) (n := n) (g := g) (τ := tw_sr τ 44 (upd (τ 44) 1 (nI k))) hl' (okT_L okv) (by rw [mU_ne (by decide)]; exact hT) hn (by rw [sr_ne (by omega)]; exact h1) (fun j hj => by rw [sr_ne (by omega)]; exact h2 j hj) n 0 N (by omega) (by omega)
    have e1' : f_X8_secondShowsAs N (182 + 2 * s) 44 (tw_sr τ 44 (upd (τ 44) 1 (nI k))) = _ := e1
    have e2' : p_X8_secondShowsAs N (182 + 2 * s) 44 (tw_sr τ 44 (upd (τ 44) 1 (nI k))) := e2
    rw [lf_X8_lags_35, lg_X8_lags_35, lo_X8_lags_35, if_neg hnlt, if_neg hnlt, if_neg hnlt, es, e1', nI_1]
    obtain ⟨a1, ⟨r, a2⟩, a3⟩ := ih (k + 1) u (tw_sr τ 44 (upd (τ 44) 1 (nI k))) k (by omega) (by omega) hl' (by rw [sr_ne (by omega)]; exact h1) (fun j hj => by rw [sr_ne (by omega)]; exact h2 j hj)
    by_cases c : okAll g (fun j => sndN (tk (mU M 4 k) j)) n 0 = true
    · have c' : ¬ boolI (okAll g (fun j => sndN (tk (mU M 4 k) j)) n 0) = 0 := by rw [boolI_0, c]; decide
      have eS : setI (fun v => okAll g (fun j => sndN (tk (mU M 4 v) j)) n 0) (k + 1) = setI (fun v => okAll g (fun j => sndN (tk (mU M 4 v) j)) n 0) k ||| ((1 : Int32) <<< (nI k &&& 31)) := if_pos c
      rw [eS] at a1 a2 a3
      rw [if_neg c', if_neg c', if_neg c']
      exact ⟨a1, ⟨r, by rw [a2, sr_sr]⟩, vs, e2', a3⟩
    · have c' : boolI (okAll g (fun j => sndN (tk (mU M 4 k) j)) n 0) = 0 := by rw [boolI_0]; simpa using c
      have eS : setI (fun v => okAll g (fun j => sndN (tk (mU M 4 v) j)) n 0) (k + 1) = setI (fun v => okAll g (fun j => sndN (tk (mU M 4 v) j)) n 0) k := if_neg c
      rw [eS] at a1 a2 a3
      rw [if_pos c', if_pos c', if_pos c']
      exact ⟨a1, ⟨r, by rw [a2, sr_sr]⟩, vs, e2', a3⟩
theorem ml_lags {N s n T : Nat} {M : Nat → Nat} {g : Nat → Int32} {τ : tw_T} (hs : s < 4) (hn : n ≤ 40) (ok : okT T M) (hT : T < 2 ^ 29) (hN : 50 ≤ N) (row : rowT (τ 191) M) (h1 : τ 199 s = nI n) (h2 : ∀ j, j < 40 → τ 200 (40 * s + j) = g j) : ∀ d k fuel, k + d = 24 → d < fuel →
    lf_X9_lags_24 N fuel (nI s) (setI (fun v => okAll g (fun j => sndN (tk (mU M 4 v) j)) n 0) k) (nI k) τ = setI (fun v => okAll g (fun j => sndN (tk (mU M 4 v) j)) n 0) 24 ∧ lg_X9_lags_24 N fuel (nI s) (setI (fun v => okAll g (fun j => sndN (tk (mU M 4 v) j)) n 0) k) (nI k) τ = τ ∧ lo_X9_lags_24 N fuel (nI s) (setI (fun v => okAll g (fun j => sndN (tk (mU M 4 v) j)) n 0) k) (nI k) τ := by
  obtain ⟨l0, l3, l4, l5, l6⟩ := okT_L ok
  intro d
  induction d with
  | zero =>
    intro k fuel hk hf
    obtain ⟨u, rfl⟩ : ∃ u, fuel = u + 1 := ⟨fuel - 1, by omega⟩
    have e : k = 24 := by omega
    subst e
    have hle : (24 : Int32) ≤ nI 24 := by decide
    rw [lf_X9_lags_24, lg_X9_lags_24, lo_X9_lags_24, if_pos hle, if_pos hle, if_pos hle]
    exact ⟨rfl, rfl, trivial⟩
  | succ d ih =>
    intro k fuel hk hf
    obtain ⟨u, rfl⟩ : ∃ u, fuel = u + 1 := ⟨fuel - 1, by omega⟩
    have hgt : ¬ (24 : Int32) ≤ nI k := nI_ge (a := k) (b := 24) (by omega) (by decide)
    obtain ⟨e1, e2⟩ := m_iss (N := N) (g := g) (p := M 3) (lag := k) hs hn l3 (by omega) row l6 l5 (by omega) h1 h2 hN
    rw [mU_id] at e1
    rw [lf_X9_lags_24, lg_X9_lags_24, lo_X9_lags_24, if_neg hgt, if_neg hgt, if_neg hgt, row 3 (by decide) (by decide), e1, or_0, nI_1]
    obtain ⟨a1, a2, a3⟩ := ih (k + 1) u (by omega) (by omega)
    by_cases c : okAll g (fun j => sndN (tk (mU M 4 k) j)) n 0 = true
    · have c' : ¬ boolI (okAll g (fun j => sndN (tk (mU M 4 k) j)) n 0) = 0 := by rw [boolI_0, c]; decide
      have eS : setI (fun v => okAll g (fun j => sndN (tk (mU M 4 v) j)) n 0) (k + 1) = setI (fun v => okAll g (fun j => sndN (tk (mU M 4 v) j)) n 0) k ||| ((1 : Int32) <<< (nI k &&& 31)) := if_pos c
      rw [eS] at a1 a2 a3
      rw [if_neg c', if_neg c', if_neg c']
      exact ⟨a1, a2, e2, a3⟩
    · have c' : boolI (okAll g (fun j => sndN (tk (mU M 4 k) j)) n 0) = 0 := by rw [boolI_0]; simpa using c
      have eS : setI (fun v => okAll g (fun j => sndN (tk (mU M 4 v) j)) n 0) (k + 1) = setI (fun v => okAll g (fun j => sndN (tk (mU M 4 v) j)) n 0) k := if_neg c
      rw [eS] at a1 a2 a3
      rw [if_pos c', if_pos c', if_pos c']
      exact ⟨a1, a2, e2, a3⟩
theorem st_lags {c N : Nat} {τ : tw_T} (hI : Inv c τ) (hc : c < 512) (hN : 5000 ≤ N) (x1 : Int32) : p_X8_lags N x1 τ ∧ p_X9_lags N x1 (g_X8_lags N x1 τ) ∧ f_X8_lags N x1 τ = f_X9_lags N x1 (g_X8_lags N x1 τ) ∧ Inv (c + 1) (g_X9_lags N x1 (g_X8_lags N x1 τ)) := by
  unfold p_X8_lags p_X9_lags f_X9_lags g_X9_lags f_X8_lags g_X8_lags
  rcases trouble_or hI x1 with ⟨t1, t2, t3⟩ | ⟨s, hs, rfl, t1, t2, t3, t4⟩ | ⟨s, hs, rfl, t1, t2, t3, t4⟩
  · obtain ⟨q1, q2, q3⟩ := fail_tr hI hc (F := -1000001) (Or.inl rfl)
    obtain ⟨l1, l2⟩ := lacks_B (x2 := 1) (t3 (g_X8_found (-1000001) τ))
    simp only [t1, q3, l1, if_false]
    exact ⟨⟨t2, trivial⟩, ⟨l2, l2, q1, trivial⟩, rfl, q2⟩
  · obtain ⟨q1, q2, q3⟩ := fail_tr hI hc (F := -1000006) (Or.inr rfl)
    obtain ⟨l1, l2⟩ := lacks_M (x2 := 1) hs (t4 (g_X8_found (-1000006) τ)) (by rw [found_ne (by decide)]; exact t3)
    simp only [t1, q3, l1, if_false]
    exact ⟨⟨t2, trivial⟩, ⟨l2, l2, q1, trivial⟩, rfl, q2⟩
  · obtain ⟨M, ok, row, spt, ⟨hl, hn, hsh⟩, hz⟩ := inv_M hI
    have hM0 := ok.1
    obtain ⟨i1, i2, i3, ⟨n, hn', i4⟩, i5⟩ := hI.2.2.2.2.1 s hs
    obtain ⟨r, k1, k2⟩ := l_take (τ := τ) (k := 44) (o := 2) (by decide)
    simp only [t1, if_true, k1]
    have hl44 : litR ((tw_sr τ 44 r) 44) (mU M 4 (M 4)) := by
      rw [sr_self, mU_id]
      obtain ⟨h0, h1, h2, h3, h4⟩ := hl
      exact ⟨(k2 0 (by decide)).trans h0, (k2 1 (by decide)).trans h1, (k2 2 (by decide)).trans h2, (k2 3 (by decide)).trans h3, (k2 4 (by decide)).trans h4⟩
    obtain ⟨a1, ⟨r', a2⟩, a3⟩ := l_lags (N := N) (s := s) (n := n) (g := fun j => τ 200 (40 * s + j)) (x2 := 0) hs hn' ok (by omega) (by omega) 24 0 N (tw_sr τ 44 r) (M 4) (by omega) (by omega) hl44 (by rw [sr_ne (by omega)]; exact i2.trans i4) (fun j hj => by rw [sr_ne (by omega)]; exact i5 j hj)
    have a1' : lf_X8_lags_35 N N (nI s) 0 0 0 (tw_sr τ 44 r) = _ := a1
    have a2' : lg_X8_lags_35 N N (nI s) 0 0 0 (tw_sr τ 44 r) = _ := a2
    have a3' : lo_X8_lags_35 N N (nI s) 0 0 0 (tw_sr τ 44 r) := a3
    rw [sr_sr] at a2'
    rw [a2']
    have g : ∀ q, q ≠ 44 → (tw_sr τ 44 r') q = τ q := fun q h => sr_ne h
    obtain ⟨l1, l2⟩ := lacks_0 (x2 := 1) (τ := tw_sr τ 44 r') hs (t4 _) (by rw [g 198 (by decide)]; exact t3) (by decide)
    obtain ⟨b1, b2, b3⟩ := ml_lags (N := N) (s := s) (n := n) (g := fun j => τ 200 (40 * s + j)) (τ := tw_sr τ 44 r') hs hn' ok (by omega) (by omega) (by rw [g 191 (by decide)]; exact row) (by rw [g 199 (by decide)]; exact i4) (fun j hj => by rw [g 200 (by decide)]) 24 0 N (by omega) (by omega)
    have b1' : lf_X9_lags_24 N N (nI s) 0 0 (tw_sr τ 44 r') = _ := b1
    have b2' : lg_X9_lags_24 N N (nI s) 0 0 (tw_sr τ 44 r') = _ := b2
    simp only [l1, if_true, b2']
    refine ⟨⟨t2, a3'⟩, ⟨l2, b3⟩, a1'.trans b1'.symm, ?_⟩
    refine Inv_same hI hc (fun k hk => ?_)
    unfold keepC at hk
    rw [sr_ne (by omega)]
