/-! ===== patternFor: the pruned search finds the least ===== -/
def FD (M : Nat → Nat) (p d : Nat) : Nat := smN (fun i => sailK (mU M 3 p) (shipN M i) d 5) (M 1)
def patW (M : Nat → Nat) (n v : Nat) : Nat := strA (tk (mU M 3 v) n)
theorem patW_FD (M : Nat → Nat) (n v : Nat) : patW M n v = FD M v n := by
  unfold patW strA FD
  rw [tk_lo _ n (j := 1) (by decide) (by decide) (by decide), mU_ne (show 1 ≠ 3 by decide)]
  refine smN_cong (fun j hj => ?_)
  show tk (mU M 3 v) n (17 + 7 * j + 5) = _
  rw [tk_ship (mU M 3 v) (by rw [mU_ne (by decide)]; exact hj) n 5 (by decide)]
  have e : shipN (mU M 3 v) j = shipN M j := by
    funext f
    unfold shipN
    rw [mU_ne (by omega)]
  rw [e]
/-- two patterns ask alike at the first d ticks -/
def agr (a d p v : Nat) : Prop := ∀ j, j < d → p.testBit ((a + j) % 12) = v.testBit ((a + j) % 12)
theorem agr_fst {a d p v j : Nat} (h : agr a d p v) (hj : j < d) : fstN p (a + j) = fstN v (a + j) := by
  unfold fstN
  rw [bit_is, bit_is, h j hj]
theorem agr_le {a d e p v : Nat} (h : agr a d p v) (he : e ≤ d) : agr a e p v := fun j hj => h j (by omega)
theorem agr_sail {M : Nat → Nat} {p v : Nat} (h6 : M 6 < 16777216) (h4 : M 4 < 24) (s : Nat → Nat) : ∀ d, agr (M 0) d p v → sailK (mU M 3 p) s d = sailK (mU M 3 v) s d
  | 0, _ => rfl
  | d + 1, h => by
    show sailN (shN (tk (mU M 3 p) d)) ((mU M 3 p) 0 + d) (sailK (mU M 3 p) s d) = sailN (shN (tk (mU M 3 v) d)) ((mU M 3 v) 0 + d) (sailK (mU M 3 v) s d)
    rw [agr_sail h6 h4 s d (agr_le h (by omega)), shN_tk _ d (by rw [mU_ne (by decide)]; exact h6) (by rw [mU_ne (by decide)]; exact h4), shN_tk _ d (by rw [mU_ne (by decide)]; exact h6) (by rw [mU_ne (by decide)]; exact h4)]
    unfold secA
    simp only [mU_self, mU_ne (show 0 ≠ 3 by decide), mU_ne (show 4 ≠ 3 by decide), mU_ne (show 5 ≠ 3 by decide), mU_ne (show 6 ≠ 3 by decide)]
    rw [agr_fst h (Nat.lt_succ_self d), agr_fst h (show d - M 4 < d + 1 by omega)]
theorem agr_FD {M : Nat → Nat} {p v d : Nat} (h6 : M 6 < 16777216) (h4 : M 4 < 24) (h : agr (M 0) d p v) : FD M p d = FD M v d := by
  unfold FD
  exact smN_cong (fun j _ => by
    show sailK (mU M 3 p) (shipN M j) d 5 = sailK (mU M 3 v) (shipN M j) d 5
    rw [agr_sail h6 h4 _ d h])
theorem sailN_5 {s : Nat → Nat} {sh t : Nat} (h : okS s) : s 5 ≤ sailN sh t s 5 := by
  have h5 := h.2.2.2.2.2.1
  have st : ∀ e, steerN e s 5 = s 5 := fun e => rfl
  unfold sailN
  split
  · exact Nat.le_refl _
  · split
    · exact Nat.le_refl _
    · unfold moveN
      split
      · show s 5 ≤ minN 9999 (s 5 + 1)
        unfold minN
        split <;> omega
      · exact Nat.le_refl _
theorem smN_mono {g g' : Nat → Nat} : ∀ {k}, (∀ j, j < k → g j ≤ g' j) → smN g k ≤ smN g' k
  | 0, _ => Nat.le_refl _
  | k + 1, h => Nat.add_le_add (smN_mono (fun j hj => h j (by omega))) (h k (Nat.lt_succ_self k))
theorem FD_mono {T : Nat} {M : Nat → Nat} (ok : okT T M) (p d : Nat) : ∀ e, FD M p d ≤ FD M p (d + e)
  | 0 => Nat.le_refl _
  | e + 1 => by
    refine Nat.le_trans (FD_mono ok p d e) ?_
    unfold FD
    have hM1 := ok.2.1
    exact smN_mono (fun j hj => sailN_5 (okS_sailK (okT_S ok (by omega)) _))
theorem FD_lt {T : Nat} {M : Nat → Nat} (ok : okT T M) (p d : Nat) : FD M p d < 79993 := by
  have hM1 := ok.2.1
  have h : FD M p d ≤ M 1 * 9999 := smN_le (fun j hj => by
    have := (okS_sailK (M := mU M 3 p) (okT_S ok (i := j) (by omega)) d).2.2.2.2.2.1
    exact Nat.le_of_lt_succ this)
  have h3 : M 1 * 9999 ≤ 8 * 9999 := Nat.mul_le_mul_right _ hM1
  omega
/-- the bits of p are asked in the first d ticks -/
def sub (a d p : Nat) : Prop := ∀ q, p.testBit q = true → ∃ j, j < d ∧ (a + j) % 12 = q
theorem sub_le {a d p v : Nat} (h : sub a d p) (g : agr a d p v) : p ≤ v := by
  have e : p &&& v = p := Nat.eq_of_testBit_eq (fun q => by
    rw [Nat.testBit_and]
    cases c : p.testBit q with
    | false => rfl
    | true =>
      obtain ⟨j, hj, rfl⟩ := h q c
      rw [← g j hj, c]
      rfl)
  rw [← e]
  exact Nat.and_le_right
theorem sub_same {a d p : Nat} (h : sub a d p) : sub a (d + 1) p := fun q c => by
  obtain ⟨j, hj, e⟩ := h q c
  exact ⟨j, by omega, e⟩
theorem sub_or {a d p : Nat} (h : sub a d p) : sub a (d + 1) (p ||| 2 ^ ((a + d) % 12)) := fun q c => by
  rw [Nat.testBit_or, Nat.testBit_two_pow, Bool.or_eq_true, decide_eq_true_eq] at c
  rcases c with c | c
  · exact sub_same h q c
  · exact ⟨d, by omega, c⟩
theorem sub_not {a d p : Nat} (h : sub a d p) (hd : d < 12) : p.testBit ((a + d) % 12) = false := by
  cases c : p.testBit ((a + d) % 12) with
  | false => rfl
  | true =>
    obtain ⟨j, hj, e⟩ := h _ c
    omega
theorem agr_or {a d p : Nat} (hd : d < 12) : agr a d p (p ||| 2 ^ ((a + d) % 12)) := fun j hj => by
  have : ¬ (a + d) % 12 = (a + j) % 12 := by omega
  rw [Nat.testBit_or, Nat.testBit_two_pow, decide_eq_false this, Bool.or_false]
theorem agr_next {a d p v : Nat} (h : agr a d p v) (hs : sub a d p) (hd : d < 12) : agr a (d + 1) p v ∨ agr a (d + 1) (p ||| 2 ^ ((a + d) % 12)) v := by
  cases c : v.testBit ((a + d) % 12) with
  | false =>
    refine Or.inl (fun j hj => ?_)
    by_cases e : j = d
    · rw [e, c, sub_not hs hd]
    · exact h j (by omega)
  | true =>
    refine Or.inr (fun j hj => ?_)
    by_cases e : j = d
    · rw [e, c, Nat.testBit_or, Nat.testBit_two_pow, decide_eq_true rfl, Bool.or_true]
    · rw [← agr_or hd j (by omega)]
      exact h j (by omega)
def lex (a b a' b' : Nat) : Prop := a < a' ∨ (a = a' ∧ b ≤ b')
theorem lex_tr {a b c d e f : Nat} (h : lex a b c d) (g : lex c d e f) : lex a b e f := by
  unfold lex at *; omega
theorem bs_spec (G : Nat → Nat) : ∀ k, (bs G k).1 ≤ k ∧ G (bs G k).1 = (bs G k).2 ∧ ∀ v, v ≤ k → lex (bs G k).2 (bs G k).1 (G v) v
  | 0 => ⟨Nat.le_refl 0, rfl, fun v hv => by
    obtain rfl : v = 0 := by omega
    exact Or.inr ⟨rfl, Nat.le_refl 0⟩⟩
  | k + 1 => by
    obtain ⟨i1, i2, i3⟩ := bs_spec G k
    by_cases c : G (k + 1) < (bs G k).2
    · have eb : bs G (k + 1) = (k + 1, G (k + 1)) := if_pos c
      rw [eb]
      refine ⟨Nat.le_refl _, rfl, fun v hv => ?_⟩
      by_cases e : v = k + 1
      · rw [e]; exact Or.inr ⟨rfl, Nat.le_refl _⟩
      · have := i3 v (by omega)
        unfold lex at *
        show G (k + 1) < G v ∨ _
        omega
    · have eb : bs G (k + 1) = bs G k := if_neg c
      rw [eb]
      refine ⟨by omega, i2, fun v hv => ?_⟩
      by_cases e : v = k + 1
      · rw [e]; unfold lex; omega
      · exact i3 v (by omega)
theorem bs_arg {G : Nat → Nat} {k b : Nat} (hb : b ≤ k) (h : ∀ v, v ≤ k → lex (G b) b (G v) v) : (bs G k).1 = b := by
  obtain ⟨i1, i2, i3⟩ := bs_spec G k
  have h1 := h _ i1
  have h2 := i3 b hb
  rw [i2] at h1
  unfold lex at h1 h2
  omega
/-! the steps of the search -/
def tb1 (N : Nat) (x1 x2 : Int32) (τ : tw_T) : tw_T := g_X1_take N (52 + 10 * (x1 + 1).toNatClampNeg) (52 + 10 * x1.toNatClampNeg) (tw_sr τ 50 (upd (τ 50) 0 x2))
def tb2 (N : Nat) (x1 x2 : Int32) (τ : tw_T) : tw_T := g_X1_sail N (52 + 10 * (x1 + 1).toNatClampNeg) (f_X2_shownAhead 50 x1 (tb1 N x1 x2 τ)) (f_X2_tickAhead 50 x1 (tb1 N x1 x2 τ)) (tb1 N x1 x2 τ)
def gB (N n : Nat) (x1 x2 : Int32) (τ : tw_T) : tw_T := g_tf N n (x1 + 1) x2 (tb2 N x1 x2 τ)
def pB (N n : Nat) (x1 x2 : Int32) (τ : tw_T) : Prop := vp_in (x1 + 1) 13 ∧ vp_in x1 13 ∧ p_X1_take N (52 + 10 * (x1 + 1).toNatClampNeg) (52 + 10 * x1.toNatClampNeg) (tw_sr τ 50 (upd (τ 50) 0 x2)) ∧ vp_in (x1 + 1) 13 ∧ p_X1_sail N (52 + 10 * (x1 + 1).toNatClampNeg) (f_X2_shownAhead 50 x1 (tb1 N x1 x2 τ)) (f_X2_tickAhead 50 x1 (tb1 N x1 x2 τ)) (tb1 N x1 x2 τ) ∧ p_tf N n (x1 + 1) x2 (tb2 N x1 x2 τ) ∧ True
def gB2 (N n : Nat) (x1 x2 : Int32) (τ : tw_T) : tw_T := gB N n x1 (x2 ||| f_X2_bitAhead 50 x1 (gB N n x1 x2 τ)) (gB N n x1 x2 τ)
def pB2 (N n : Nat) (x1 x2 : Int32) (τ : tw_T) : Prop := pB N n x1 x2 τ ∧ pB N n x1 (x2 ||| f_X2_bitAhead 50 x1 (gB N n x1 x2 τ)) (gB N n x1 x2 τ) ∧ True
def gLf (S x2 : Int32) (τ : tw_T) : tw_T := tw_sr (tw_sr τ 49 (upd (τ 49) 4 S)) 49 (upd ((tw_sr τ 49 (upd (τ 49) 4 S)) 49) 3 x2)
theorem g_tf_s (N n : Nat) (x1 x2 : Int32) (τ : tw_T) : g_tf N (n + 1) x1 x2 τ = if (τ 49 4) < (f_X1_strandedOfAll N (52 + 10 * x1.toNatClampNeg) τ) then τ else (if (f_X1_strandedOfAll N (52 + 10 * x1.toNatClampNeg) τ) = (τ 49 4) then (if x2 < (τ 49 3) then (if x1 < (τ 49 2) then gB2 N n x1 x2 τ else gLf (f_X1_strandedOfAll N (52 + 10 * x1.toNatClampNeg) τ) x2 τ) else τ) else (if x1 < (τ 49 2) then gB2 N n x1 x2 τ else gLf (f_X1_strandedOfAll N (52 + 10 * x1.toNatClampNeg) τ) x2 τ)) := rfl
theorem p_tf_s (N n : Nat) (x1 x2 : Int32) (τ : tw_T) : p_tf N (n + 1) x1 x2 τ = (vp_in x1 13 ∧ p_X1_strandedOfAll N (52 + 10 * x1.toNatClampNeg) τ ∧ (if (τ 49 4) < (f_X1_strandedOfAll N (52 + 10 * x1.toNatClampNeg) τ) then True else (if (f_X1_strandedOfAll N (52 + 10 * x1.toNatClampNeg) τ) = (τ 49 4) then (if x2 < (τ 49 3) then (if x1 < (τ 49 2) then pB2 N n x1 x2 τ else True) else True) else (if x1 < (τ 49 2) then pB2 N n x1 x2 τ else True)))) := rfl
/-- the fleet of depth d -/
def flD (M : Nat → Nat) (d p : Nat) (τ : tw_T) : Prop := τ (52 + 10 * d) 1 = nI (M 1) ∧ ∀ j, j < M 1 → shR (τ (52 + 10 * d + 2 + j)) (sailK (mU M 3 p) (shipN M j) d)
theorem flD_cong {M : Nat → Nat} {d p : Nat} {τ τ' : tw_T} (hM : M 1 ≤ 8) (e : ∀ q, 52 + 10 * d ≤ q → q < 52 + 10 * (d + 1) → τ' q = τ q) (h : flD M d p τ) : flD M d p τ' :=
  ⟨by rw [e _ (by omega) (by omega)]; exact h.1, fun j hj => by rw [e _ (by omega) (by omega)]; exact h.2 j hj⟩
theorem c_tb {N T d p p' u : Nat} {M : Nat → Nat} {τ : tw_T} (ok : okT T M) (hT : M 0 + 13 ≤ 99999) (hN : 9 ≤ N) (hd : d < 12) (hp' : p' < 4096) (ha : agr (M 0) d p p') (hl : litR (τ 50) (mU M 3 u)) (hf : flD M d p τ) :
    flD M (d + 1) p' (tb2 N (nI d) (nI p') τ) ∧ litR ((tb2 N (nI d) (nI p') τ) 50) (mU M 3 p') ∧ (∀ q, q ≠ 50 → (q < 52 + 10 * (d + 1) ∨ 52 + 10 * (d + 2) ≤ q) → (tb2 N (nI d) (nI p') τ) q = τ q) ∧
      ∀ n, p_tf N n (nI (d + 1)) (nI p') (tb2 N (nI d) (nI p') τ) → pB N n (nI d) (nI p') τ := by
  have hM1 := ok.2.1
  obtain ⟨l0, l3, l4, l5, l6⟩ := okT_L ok
  have ed : (nI d).toNatClampNeg = d := nI_clamp (by omega)
  have ed1 : (nI d + 1).toNatClampNeg = d + 1 := by rw [nI_1]; exact nI_clamp (by omega)
  have v1 : vp_in (nI d + 1) 13 := by rw [nI_1]; exact vp_in_nI (by omega) (by decide)
  have v0 : vp_in (nI d) 13 := vp_in_nI (by omega) (by decide)
  have okp := okT_mU (j := 3) (v := p') ok (by decide) (by decide) (by decide) hp'
  have m0 : mU M 3 p' 0 = M 0 := mU_ne (by decide)
  obtain ⟨f1, f2, f3, f4⟩ := c_ftake (N := N) (f := 52 + 10 * (d + 1)) (o := 52 + 10 * d) (m := M 1) (τ := tw_sr τ 50 (upd (τ 50) 0 (nI p'))) hM1 (by omega) (by rw [sr_ne (by omega)]; exact hf.1) (by omega)
  have eA : tb1 N (nI d) (nI p') τ = g_X1_take N (52 + 10 * (d + 1)) (52 + 10 * d) (tw_sr τ 50 (upd (τ 50) 0 (nI p'))) := by
    unfold tb1
    rw [ed, ed1]
  unfold pB
  have eB : tb2 N (nI d) (nI p') τ = g_X1_sail N (52 + 10 * (d + 1)) (f_X2_shownAhead 50 (nI d) (tb1 N (nI d) (nI p') τ)) (f_X2_tickAhead 50 (nI d) (tb1 N (nI d) (nI p') τ)) (tb1 N (nI d) (nI p') τ) := by
    unfold tb2
    rw [ed1]
  rw [eB, ed, ed1]
  generalize tb1 N (nI d) (nI p') τ = A at *
  rw [← eA] at f1 f2 f3
  have lA : litR (A 50) (mU M 3 p') := by
    rw [f1 50 (by omega), sr_self]
    obtain ⟨h0, h1, h2, h3, h4⟩ := hl
    unfold litR at *
    rw [mU_ne (by decide)] at h1 h2 h3 h4
    rw [mU_self, mU_ne (by decide), mU_ne (by decide), mU_ne (by decide), mU_ne (by decide), pk_us]
    exact ⟨rfl, by rw [pk_un (by decide)]; exact h1, by rw [pk_un (by decide)]; exact h2, by rw [pk_un (by decide)]; exact h3, by rw [pk_un (by decide)]; exact h4⟩
  have sA : ∀ j, j < M 1 → shR (A (52 + 10 * (d + 1) + 2 + j)) (sailK (mU M 3 p') (shipN M j) d) := fun j hj f hf' => by
    rw [f3 j hj f hf', sr_ne (by omega), hf.2 j hj f hf', agr_sail l6 l4 _ d ha]
  rw [l_shown lA (okT_L okp) (by omega), l_tick lA (by omega), m0]
  obtain ⟨⟨s1, s2⟩, s3⟩ := c_fsail (N := N) (f := 52 + 10 * (d + 1)) (m := M 1) (sh := shN (tk (mU M 3 p') d)) (t := M 0 + d) (S := fun j => sailK (mU M 3 p') (shipN M j) d) (τ := A) hM1 (shN_lt _) (by omega) (fun j hj => okS_sailK (okT_S ok (by omega)) d) f2 sA (by omega)
  refine ⟨⟨by rw [s1 _ (by omega)]; exact f2, fun j hj => ?_⟩, by rw [s1 50 (by omega)]; exact lA, fun q hq hq2 => ?_, fun n hn => ⟨v1, v0, f4, v1, s3, ?_, trivial⟩⟩
  · have := s2 j hj
    have e : sailK (mU M 3 p') (shipN M j) (d + 1) = sailN (shN (tk (mU M 3 p') d)) (M 0 + d) (sailK (mU M 3 p') (shipN M j) d) := by
      show sailN _ (mU M 3 p' 0 + d) _ = _
      rw [m0]
    rw [e]
    exact this
  · rw [s1 q (by omega), f1 q (by omega), sr_ne hq]
  · rw [nI_1]
    exact hn
