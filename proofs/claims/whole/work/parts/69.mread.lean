/-! ===== an item of a text, the reference ===== -/
theorem rPt_56 {B s : Nat → Nat} {n b f : Nat} (hf : 5 ≤ f) : (rPt B n b s).2.2 f = s f := by
  unfold rPt
  split
  · exact mU_ne (by omega)
  · rfl
theorem rSp_56 {B s : Nat → Nat} {n b f : Nat} (hf : 5 ≤ f) : (rSp B n b s).2.2 f = s f := by
  unfold rSp
  split
  · split
    · rw [rPt_56 hf, mU_ne (by omega)]
    · rfl
  · exact rPt_56 hf
theorem rBk_56 {B s : Nat → Nat} {n b f : Nat} (hf : 5 ≤ f) : (rBk B n b s).2.2 f = s f := by
  unfold rBk
  split
  · rw [rSp_56 hf, mU_ne (by omega)]
  · exact rSp_56 hf
theorem rAt_56 {B s : Nat → Nat} {n b f : Nat} (hf : 5 ≤ f) : (rAt B n b s).2.2 f = s f := by
  unfold rAt
  split
  · split
    · rw [rBk_56 hf, mU_ne (by omega)]
    · rfl
  · exact rBk_56 hf
/-- what item K of the row does to a sea -/
def one (r : Nat → Int32) (K : Nat) (M M' : Nat → Nat) : Prop := (∃ a v, a < 3 ∧ v < bd (3 + a) ∧ r (5 * K) = nI (10 + a) ∧ r (5 * K + 1) = nI v ∧ M' = mU M (3 + a) v) ∨ ∃ s, okS s ∧ M 1 < 8 ∧ (∀ j, j < 5 → r (5 * K + j) = nI (s j)) ∧ s 5 = 0 ∧ s 6 = 0 ∧ M' = plusS M s
theorem one_cong {r r' : Nat → Int32} {K : Nat} {M M' : Nat → Nat} (e : ∀ j, j < 5 → r' (5 * K + j) = r (5 * K + j)) (h : one r K M M') : one r' K M M' := by
  rcases h with ⟨a, v, h1, h2, h3, h4, h5⟩ | ⟨s, h1, h2, h3, h4, h5, h6⟩
  · exact Or.inl ⟨a, v, h1, h2, (e 0 (by decide)).trans h3, (e 1 (by decide)).trans h4, h5⟩
  · exact Or.inr ⟨s, h1, h2, fun j hj => (e j hj).trans (h3 j hj), h4, h5, h6⟩
theorem first_all : ∀ w, w < 7 → ∀ w', w' < 7 → (wL w).getD 0 0 = (wL w').getD 0 0 → w = w' := by decide
theorem first_len : ∀ w, w < 7 → 0 < (wL w).length := by decide
theorem wd_first {B : Nat → Nat} {n b : Nat} {L : List Int32} (hL : 0 < L.length) (h : wdB B n b L = true) : nI (B b) = L.getD 0 0 := by
  cases L with
  | nil => exact absurd hL (by decide)
  | cons x L => exact wd_at h
theorem kd_eq {B : Nat → Nat} {n b i : Nat} (hi : i < 7) (h : wdB B n b (wL i) = true) : kd B n b = i := by
  by_cases c : kd B n b < 7
  · have h1 := wd_first (first_len _ c) (kd_word c)
    have h2 := wd_first (first_len i hi) h
    exact first_all _ c i hi (h1.symm.trans h2)
  · have := kd_no c i hi
    rw [this] at h
    exact absurd h (by decide)
theorem ml_kwd {N n b : Nat} {B : Nat → Nat} {τ : tw_T} (hn : n ≤ 120) (hN : 130 ≤ N) (hbn : b ≤ n) (h : curM B n b τ) : ∀ d i fuel x1, i + d = 7 → d < fuel →
    lg_X9_readItem_4 N fuel x1 (nI i) τ = lg_X9_readItem_38 N N (if kd B n b < 7 ∧ i ≤ kd B n b then nI (kd B n b) else x1) 7 τ ∧ (lo_X9_readItem_38 N N (if kd B n b < 7 ∧ i ≤ kd B n b then nI (kd B n b) else x1) 7 τ → lo_X9_readItem_4 N fuel x1 (nI i) τ) := by
  intro d
  induction d with
  | zero =>
    intro i fuel x1 hi hf
    obtain ⟨u, rfl⟩ : ∃ u, fuel = u + 1 := ⟨fuel - 1, by omega⟩
    have e : i = 7 := by omega
    subst e
    have hle : (7 : Int32) ≤ nI 7 := by decide
    rw [lg_X9_readItem_4, lo_X9_readItem_4, if_pos hle, if_pos hle, if_neg (show ¬ (kd B n b < 7 ∧ 7 ≤ kd B n b) by omega)]
    exact ⟨rfl, id⟩
  | succ d ih =>
    intro i fuel x1 hi hf
    obtain ⟨u, rfl⟩ : ∃ u, fuel = u + 1 := ⟨fuel - 1, by omega⟩
    have hgt : ¬ (7 : Int32) ≤ nI i := nI_ge (a := i) (b := 7) (by omega) (by decide)
    have hv : vp_in (nI i) 7 := vp_in_nI (by omega) (by decide)
    obtain ⟨w1, w2⟩ := m_word (N := N) (w := 14 + i) (by omega) hn (by omega) hbn h
    rw [byt_same i (by omega)] at w1
    have w1' : f_X9_isWord N (14 + i) τ = boolI (wdB B n b (wL i)) := w1
    rw [lg_X9_readItem_4, lo_X9_readItem_4, if_neg hgt, if_neg hgt, nI_clamp (by omega), w1', nI_1]
    by_cases c : wdB B n b (wL i) = true
    · have ek := kd_eq (by omega) c
      obtain ⟨a1, a2⟩ := ih (i + 1) u (nI i) (by omega) (by omega)
      rw [if_neg (show ¬ (kd B n b < 7 ∧ i + 1 ≤ kd B n b) by omega)] at a1 a2
      rw [if_neg (bo_t c), if_neg (bo_t c), if_pos (show kd B n b < 7 ∧ i ≤ kd B n b by omega), ek]
      exact ⟨a1, fun q => ⟨hv, w2, a2 q⟩⟩
    · have ek : kd B n b ≠ i := fun e => c (by
        have := kd_word (B := B) (n := n) (b := b) (by omega)
        rwa [e] at this)
      obtain ⟨a1, a2⟩ := ih (i + 1) u x1 (by omega) (by omega)
      have hc : (kd B n b < 7 ∧ i + 1 ≤ kd B n b) ↔ (kd B n b < 7 ∧ i ≤ kd B n b) := by omega
      simp only [hc] at a1 a2
      rw [if_pos (bo_f c), if_pos (bo_f c)]
      exact ⟨a1, fun q => ⟨hv, w2, a2 q⟩⟩
/-- what the reference holds when an item was read -/
def itM (B : Nat → Nat) (n K : Nat) (M : Nat → Nat) (τ τ' : tw_T) (R : Bool × Nat × (Nat → Nat)) : Prop := frM τ τ' ∧ (R.1 = true → mS B n R.2.1 (K + 1) (R.2.2 1) τ' ∧ one (τ' 197) K M R.2.2 ∧ ∀ j, j < 5 * K → τ' 197 j = τ 197 j) ∧ (R.1 = false → τ' 190 11 = 1 ∧ τ' 190 7 = nI R.2.1)
theorem m_readShip {N n b K T w : Nat} {B M : Nat → Nat} {τ : tw_T} (hn : n ≤ 120) (hB : ∀ j, B j < 256) (hN : 130 ≤ N) (hbn : b ≤ n) (hK : K < 120) (ok : okT T M) (hw : w < 7) (h : mS B n b K (M 1) τ) :
    itM B n K M τ (g_X9_readShip N (nI w) τ) (if 8 ≤ M 1 then (false, b, M) else ((rAt B n (nx B n b) (newS w 11)).1, (rAt B n (nx B n b) (newS w 11)).2.1, plusS M (rAt B n (nx B n b) (newS w 11)).2.2)) ∧ p_X9_readShip N (nI w) τ := by
  have hM1 := ok.2.1
  have e8 : (8 : Int32) ≤ nI (M 1) ↔ 8 ≤ M 1 := nI_leI (a := 8) (by decide) (by omega)
  unfold g_X9_readShip p_X9_readShip
  rw [h.2.2.2]
  simp only [e8]
  by_cases c : 8 ≤ M 1
  · obtain ⟨z1, z2, z3⟩ := m_must0 (N := N) h
    obtain ⟨⟨a1, a2⟩, a3⟩ := w_18 (N := N) (x1 := nI w) (by omega) hK z1
    rw [if_pos c, if_pos c, if_pos c]
    exact ⟨⟨frM_8 z2 a1, fun q => absurd (show false = true from q) (by decide), fun _ => ⟨a2.1, a2.2.1⟩⟩, z3, a3⟩
  · obtain ⟨s1, s2, s3⟩ := m_must1 (N := N) hn hB hN hbn h
    have hnx := (nx_le (B := B) hbn).2
    obtain ⟨a1, a2⟩ := r_18 (N := N) (s := newS w 11) (x1 := nI w) hn hB hN hnx hK s1 rfl rfl rfl rfl rfl
    obtain ⟨g1, g2, g3⟩ := stM_8 s2 a1
    rw [if_neg c, if_neg c, if_neg c]
    refine ⟨⟨g1, fun q => ?_, fun q => ?_⟩, s3, a2⟩
    · obtain ⟨x1, x2, x3⟩ := g2 q
      refine ⟨x1, Or.inr ⟨_, (rAt_ok hnx (okS_new hw)).2.2, by omega, x2, ?_, ?_, rfl⟩, x3⟩
      · rw [rAt_56 (by decide)]; rfl
      · rw [rAt_56 (by decide)]; rfl
    · have := g3 q
      exact ⟨this.1, this.2.1⟩
/-- a light of a text -/
theorem m_lgt {N n b K a hi : Nat} {B M : Nat → Nat} {x1 : Int32} {τ : tw_T} (hn : n ≤ 120) (hB : ∀ j, B j < 256) (hN : 130 ≤ N) (hbn : b ≤ n) (hK : K < 120) (ha : a < 3) (hh : bd (3 + a) = hi + 1) (h5 : hi < 5000) (hx : x1 = nI (10 + a)) (h : mS B n (nx B n b) K (M 1) τ) :
    itM B n K M τ (g_X9_addItem x1 (f_X9_number N 0 (nI hi) τ) 0 0 0 (g_X9_number N 0 (nI hi) τ)) (lgt B n b M a) ∧ p_X9_number N 0 (nI hi) τ ∧ p_X9_addItem x1 (f_X9_number N 0 (nI hi) τ) 0 0 0 (g_X9_number N 0 (nI hi) τ) := by
  obtain ⟨q1, q2, q3, q4⟩ := m_numb (N := N) (hi := hi) hn hB hN hbn h5 h
  unfold lgt
  rw [hh]
  by_cases c : okN B n b (hi + 1) = true
  · obtain ⟨v1, v2⟩ := q3 c
    obtain ⟨vc, v11, v14, v15⟩ := v2
    obtain ⟨r, a1, ⟨a2, a3, a4, a5, a6⟩, a7, a8⟩ := m_add (x1 := x1) (x2 := f_X9_number N 0 (nI hi) τ) (x3 := 0) (x4 := 0) (x5 := 0) hK v14
    rw [a1, if_pos c]
    refine ⟨⟨⟨fun q h1 h2 => by rw [sr_ne h1, sr_ne h2, q2.1 q h1], fun j hj => by rw [sr_self, pk_un (by omega), q2.2 j hj]⟩, fun _ => ⟨⟨curM_sr vc (fun j hj => pk_un (by omega)), ?_, ?_, ?_⟩, Or.inl ⟨a, vA B n (nx B n b), ha, by rw [hh]; exact (okN_v c).2, ?_, ?_, rfl⟩, fun j hj => ?_⟩, fun q => absurd (c.symm.trans (show okN B n b (hi + 1) = false from q)) (by decide)⟩, q1, a8⟩
    · rw [sr_self, pk_un (by decide)]; exact v11
    · rw [sr_self, pk_us]
    · rw [sr_self, pk_un (by decide)]
      show _ = nI (mU M (3 + a) (vA B n (nx B n b)) 1)
      rw [mU_ne (by omega)]
      exact v15
    · rw [sr_ne (by decide), sr_self, a2]; exact hx
    · rw [sr_ne (by decide), sr_self, a3]; exact v1
    · rw [sr_ne (by decide), sr_self, a7 j hj, q2.1 197 (by decide)]
  · have c' : okN B n b (hi + 1) = false := by simpa using c
    obtain ⟨v11, v7, v14⟩ := q4 c'
    obtain ⟨r, a1, a2, a7, a8⟩ := m_add (x1 := x1) (x2 := f_X9_number N 0 (nI hi) τ) (x3 := 0) (x4 := 0) (x5 := 0) hK v14
    rw [a1, if_neg c]
    refine ⟨⟨⟨fun q h1 h2 => by rw [sr_ne h1, sr_ne h2, q2.1 q h1], fun j hj => by rw [sr_self, pk_un (by omega), q2.2 j hj]⟩, fun q => absurd (c'.symm.trans (show okN B n b (hi + 1) = true from q)) (by decide), fun _ => ⟨?_, ?_⟩⟩, q1, a8⟩
    · rw [sr_self, pk_un (by decide)]; exact v11
    · rw [sr_self, pk_un (by decide)]; exact v7
theorem itM_8 {B : Nat → Nat} {n K : Nat} {M : Nat → Nat} {τ τ1 τ' : tw_T} {R : Bool × Nat × (Nat → Nat)} (h : fr8 τ τ1) (g : itM B n K M τ1 τ' R) : itM B n K M τ τ' R := by
  obtain ⟨g1, g2, g3⟩ := g
  refine ⟨frM_8 h g1, fun q => ?_, g3⟩
  obtain ⟨a, b, c⟩ := g2 q
  exact ⟨a, b, fun j hj => by rw [c j hj, h.1 197 (by decide)]⟩
theorem m_item {N n b K T : Nat} {B M : Nat → Nat} {τ : tw_T} (hn : n ≤ 120) (hB : ∀ j, B j < 256) (hN : 130 ≤ N) (hbn : b ≤ n) (hK : K < 120) (ok : okT T M) (h : mS B n b K (M 1) τ) :
    itM B n K M τ (g_X9_readItem N τ) (itm B n b M) ∧ p_X9_readItem N τ := by
  obtain ⟨l1, l2⟩ := ml_kwd (N := N) hn hN hbn h.1 7 0 N (-1) (by omega) (by omega)
  have l1' : g_X9_readItem N τ = _ := l1
  have l2' : _ → p_X9_readItem N τ := l2
  suffices hs : itM B n K M τ (lg_X9_readItem_38 N N (if kd B n b < 7 ∧ 0 ≤ kd B n b then nI (kd B n b) else -1) 7 τ) (itm B n b M) ∧ lo_X9_readItem_38 N N (if kd B n b < 7 ∧ 0 ≤ kd B n b then nI (kd B n b) else -1) 7 τ by
    rw [l1']
    exact ⟨hs.1, l2' hs.2⟩
  obtain ⟨P, rfl⟩ : ∃ P, N = P + 1 := ⟨N - 1, by omega⟩
  unfold itm
  rw [lg_X9_readItem_38, lo_X9_readItem_38]
  by_cases c : kd B n b < 7
  · have hneg : ¬ nI (kd B n b) < 0 := nI_pos (by omega)
    obtain ⟨a1, a2⟩ := m_readShip (N := P + 1) hn hB hN hbn hK ok c h
    rw [if_pos c, if_pos (show kd B n b < 7 ∧ 0 ≤ kd B n b from ⟨c, Nat.zero_le _⟩), if_neg hneg, if_neg hneg]
    exact ⟨a1, a2, trivial⟩
  · have hneg : (-1 : Int32) < 0 := by decide
    rw [if_neg c, if_neg (show ¬ (kd B n b < 7 ∧ 0 ≤ kd B n b) from fun q => c q.1), if_pos hneg, if_pos hneg, lg_X9_readItem_50, lo_X9_readItem_50]
    obtain ⟨t1, t2, t3, t4⟩ := m_takes (N := P + 1) (w := 11) hn hB hN hbn (by decide) h
    have t1' : f_X9_takesWord (P + 1) 25 τ = _ := t1
    have t2' : p_X9_takesWord (P + 1) 25 τ := t2
    rw [t1']
    by_cases c1 : wdB B n b (wL 11) = true
    · rw [if_pos c1] at t3
      obtain ⟨a1, a2, a3⟩ := m_lgt (N := P + 1) (M := M) (a := 0) (hi := 4095) (x1 := 10) hn hB hN hbn hK (by decide) rfl (by decide) rfl t3
      rw [if_neg (bo_t c1), if_neg (bo_t c1), if_pos c1]
      exact ⟨itM_8 t4 a1, t2', a2, a3, trivial⟩
    rw [if_neg c1] at t3
    rw [if_pos (bo_f c1), if_pos (bo_f c1), if_neg c1, lg_X9_readItem_80, lo_X9_readItem_80]
    have t3' : mS B n b K (M 1) (g_X9_takesWord (P + 1) 25 τ) := t3
    have t4' : fr8 τ (g_X9_takesWord (P + 1) 25 τ) := t4
    generalize g_X9_takesWord (P + 1) 25 τ = τ1 at *
    obtain ⟨u1, u2, u3, u4⟩ := m_takes (N := P + 1) (w := 12) hn hB hN hbn (by decide) t3'
    have u1' : f_X9_takesWord (P + 1) 26 τ1 = _ := u1
    have u2' : p_X9_takesWord (P + 1) 26 τ1 := u2
    rw [u1']
    by_cases c2 : wdB B n b (wL 12) = true
    · rw [if_pos c2] at u3
      obtain ⟨a1, a2, a3⟩ := m_lgt (N := P + 1) (M := M) (a := 1) (hi := 23) (x1 := 11) hn hB hN hbn hK (by decide) rfl (by decide) rfl u3
      rw [if_neg (bo_t c2), if_neg (bo_t c2), if_pos c2]
      exact ⟨itM_8 t4' (itM_8 u4 a1), t2', u2', a2, a3, trivial⟩
    rw [if_neg c2] at u3
    rw [if_pos (bo_f c2), if_pos (bo_f c2), if_neg c2, lg_X9_readItem_109, lo_X9_readItem_109]
    have u3' : mS B n b K (M 1) (g_X9_takesWord (P + 1) 26 τ1) := u3
    have u4' : fr8 τ1 (g_X9_takesWord (P + 1) 26 τ1) := u4
    generalize g_X9_takesWord (P + 1) 26 τ1 = τ2 at *
    obtain ⟨v1, v2, v3, v4⟩ := m_takes (N := P + 1) (w := 13) hn hB hN hbn (by decide) u3'
    have v1' : f_X9_takesWord (P + 1) 27 τ2 = _ := v1
    have v2' : p_X9_takesWord (P + 1) 27 τ2 := v2
    rw [v1']
    by_cases c3 : wdB B n b (wL 13) = true
    · rw [if_pos c3] at v3
      obtain ⟨a1, a2, a3⟩ := m_lgt (N := P + 1) (M := M) (a := 2) (hi := 1) (x1 := 12) hn hB hN hbn hK (by decide) rfl (by decide) rfl v3
      rw [if_neg (bo_t c3), if_neg (bo_t c3), if_pos c3]
      exact ⟨itM_8 t4' (itM_8 u4' (itM_8 v4 a1)), t2', u2', v2', a2, a3, trivial⟩
    rw [if_neg c3] at v3
    rw [if_pos (bo_f c3), if_pos (bo_f c3), if_neg c3]
    have v3' : mS B n b K (M 1) (g_X9_takesWord (P + 1) 27 τ2) := v3
    have v4' : fr8 τ2 (g_X9_takesWord (P + 1) 27 τ2) := v4
    obtain ⟨z1, z2, z3⟩ := m_must0 (N := P + 1) v3'
    exact ⟨itM_8 t4' (itM_8 u4' (itM_8 v4' ⟨frM_of z2, fun q => absurd (show false = true from q) (by decide), fun _ => ⟨z1.1, z1.2.1⟩⟩)), t2', u2', v2', z3, trivial⟩
