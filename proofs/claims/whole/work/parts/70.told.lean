/-! ===== the items are told to the row ===== -/
theorem one_ok {T K : Nat} {r : Nat → Int32} {M M' : Nat → Nat} (ok : okT T M) (h : one r K M M') : okT T M' := by
  rcases h with ⟨a, v, h1, h2, h3, h4, rfl⟩ | ⟨s, h1, h2, h3, h4, h5, rfl⟩
  · exact okT_mU ok (by omega) (by omega) (by omega) h2
  · exact okT_plusS ok h2 h1
set_option maxHeartbeats 1000000 in
theorem m_one {N K T : Nat} {M M' : Nat → Nat} {τ : tw_T} (hN : 8 ≤ N) (hK : K < 120) (ok : okT T M) (row : rowT (τ 191) M) (h : one (τ 197) K M M') :
    (∃ R, g_X9_isToldSo N (5 * nI K) τ = tw_sr τ 191 R ∧ rowT R M' ∧ oth R (τ 191)) ∧ p_X9_isToldSo N (5 * nI K) τ := by
  have hM1 := ok.2.1
  have e5 : 5 * nI K = nI (5 * K) := pk_mul 5 K
  have e1 : nI (5 * K) + 1 = nI (5 * K + 1) := nI_add _ 1
  have e2 : nI (5 * K) + 2 = nI (5 * K + 2) := nI_add _ 2
  have e3 : nI (5 * K) + 3 = nI (5 * K + 3) := nI_add _ 3
  have e4 : nI (5 * K) + 4 = nI (5 * K + 4) := nI_add _ 4
  have c0 : (nI (5 * K)).toNatClampNeg = 5 * K := nI_clamp (by omega)
  have c1 : (nI (5 * K + 1)).toNatClampNeg = 5 * K + 1 := nI_clamp (by omega)
  have c2 : (nI (5 * K + 2)).toNatClampNeg = 5 * K + 2 := nI_clamp (by omega)
  have c3 : (nI (5 * K + 3)).toNatClampNeg = 5 * K + 3 := nI_clamp (by omega)
  have c4 : (nI (5 * K + 4)).toNatClampNeg = 5 * K + 4 := nI_clamp (by omega)
  have v0 : vp_in (nI (5 * K)) 600 := vp_in_nI (by omega) (by decide)
  have v1 : vp_in (nI (5 * K + 1)) 600 := vp_in_nI (by omega) (by decide)
  have v2 : vp_in (nI (5 * K + 2)) 600 := vp_in_nI (by omega) (by decide)
  have v3 : vp_in (nI (5 * K + 3)) 600 := vp_in_nI (by omega) (by decide)
  have v4 : vp_in (nI (5 * K + 4)) 600 := vp_in_nI (by omega) (by decide)
  unfold g_X9_isToldSo p_X9_isToldSo
  rw [e5, e1, e2, e3, e4, c0, c1, c2, c3, c4]
  rcases h with ⟨a, v, h1, h2, h3, h4, rfl⟩ | ⟨s, h1, h2, h3, h4, h5, rfl⟩
  · have ho : oth (upd (τ 191) (3 + a) (nI v)) (τ 191) := fun j hj => pk_un (by omega)
    rw [h3, h4]
    rcases (show a = 0 ∨ a = 1 ∨ a = 2 by omega) with rfl | rfl | rfl
    · have t : nI (10 + 0) = (10 : Int32) := rfl
      rw [if_pos t, if_pos t]
      exact ⟨⟨_, rfl, rowT_mU row, ho⟩, v1, v0, trivial⟩
    · have t0 : ¬ nI (10 + 1) = (10 : Int32) := by decide
      have t : nI (10 + 1) = (11 : Int32) := rfl
      rw [if_neg t0, if_neg t0, if_pos t, if_pos t]
      exact ⟨⟨_, rfl, rowT_mU row, ho⟩, v1, v0, trivial⟩
    · have t0 : ¬ nI (10 + 2) = (10 : Int32) := by decide
      have t1 : ¬ nI (10 + 2) = (11 : Int32) := by decide
      have t : nI (10 + 2) = (12 : Int32) := rfl
      rw [if_neg t0, if_neg t0, if_neg t1, if_neg t1, if_pos t, if_pos t]
      exact ⟨⟨_, rfl, rowT_mU row, ho⟩, v1, v0, trivial⟩
  · have s0 : s 0 < 7 := h1.1
    have h30 : τ 197 (5 * K) = nI (s 0) := h3 0 (by decide)
    have h31 : τ 197 (5 * K + 1) = nI (s 1) := h3 1 (by decide)
    have h32 : τ 197 (5 * K + 2) = nI (s 2) := h3 2 (by decide)
    have h33 : τ 197 (5 * K + 3) = nI (s 3) := h3 3 (by decide)
    have h34 : τ 197 (5 * K + 4) = nI (s 4) := h3 4 (by decide)
    have n10 : ¬ nI (s 0) = (10 : Int32) := fun q => by have := (nI_eq (b := 10) (by omega) (by decide)).mp q; omega
    have n11 : ¬ nI (s 0) = (11 : Int32) := fun q => by have := (nI_eq (b := 11) (by omega) (by decide)).mp q; omega
    have n12 : ¬ nI (s 0) = (12 : Int32) := fun q => by have := (nI_eq (b := 12) (by omega) (by decide)).mp q; omega
    have r1 : τ 191 1 = nI (M 1) := row 1 (by decide) (by decide)
    obtain ⟨⟨R, g1, g2, g3, g4⟩, g5, g6⟩ := m_comes (N := N) (x1 := nI (s 0)) (x2 := nI (s 1)) (τ := τ) (i := M 1) h2 r1 hN
    have a2 : ∀ t, f_X9_shipAt (nI (M 1)) 2 t = nI (17 + 7 * M 1 + 2) := fun t => m_at (M 1) 2 t
    have a3 : ∀ t, f_X9_shipAt (nI (M 1)) 3 t = nI (17 + 7 * M 1 + 3) := fun t => m_at (M 1) 3 t
    have a4 : ∀ t, f_X9_shipAt (nI (M 1)) 4 t = nI (17 + 7 * M 1 + 4) := fun t => m_at (M 1) 4 t
    have k2 : (nI (17 + 7 * M 1 + 2)).toNatClampNeg = 17 + 7 * M 1 + 2 := nI_clamp (by omega)
    have k3 : (nI (17 + 7 * M 1 + 3)).toNatClampNeg = 17 + 7 * M 1 + 3 := nI_clamp (by omega)
    have k4 : (nI (17 + 7 * M 1 + 4)).toNatClampNeg = 17 + 7 * M 1 + 4 := nI_clamp (by omega)
    have u2 : vp_in (nI (17 + 7 * M 1 + 2)) 73 := vp_in_nI (by omega) (by decide)
    have u3 : vp_in (nI (17 + 7 * M 1 + 3)) 73 := vp_in_nI (by omega) (by decide)
    have u4 : vp_in (nI (17 + 7 * M 1 + 4)) 73 := vp_in_nI (by omega) (by decide)
    have n197 : (197 : Nat) ≠ 191 := by decide
    rw [h30, h31, if_neg n10, if_neg n10, if_neg n11, if_neg n11, if_neg n12, if_neg n12, g5, g1]
    simp only [a2, a3, a4, k2, k3, k4, sr_self, sr_sr, sr_ne n197, h32, h33, h34]
    refine ⟨⟨_, rfl, fun q hq hq2 => ?_, fun j hj => ?_⟩, v1, v0, v0, g6, v2, u2, v3, u3, v4, u4, trivial⟩
    · by_cases c : 17 + 7 * M 1 ≤ q ∧ q < 24 + 7 * M 1
      · obtain ⟨f, rfl⟩ : ∃ f, q = 17 + 7 * M 1 + f := ⟨q - (17 + 7 * M 1), by omega⟩
        have hf : f < 7 := by omega
        rw [plusS_in M s hf]
        rcases f7 hf with rfl | rfl | rfl | rfl | rfl | rfl | rfl
        · rw [pk_un (by omega), pk_un (by omega), pk_un (by omega), g3 0 (by decide)]; rfl
        · rw [pk_un (by omega), pk_un (by omega), pk_un (by omega), g3 1 (by decide)]; rfl
        · rw [pk_un (by omega), pk_un (by omega), pk_us]
        · rw [pk_un (by omega), pk_us]
        · rw [pk_us]
        · rw [pk_un (by omega), pk_un (by omega), pk_un (by omega), g3 5 (by decide), h4]; rfl
        · rw [pk_un (by omega), pk_un (by omega), pk_un (by omega), g3 6 (by decide), h5]; rfl
      · rw [pk_un (by omega), pk_un (by omega), pk_un (by omega)]
        by_cases e : q = 1
        · subst e
          rw [g2]
          rfl
        · rw [g4 q e (by omega), plusS_lo M s e (by omega)]
          exact row q hq hq2
    · rw [pk_un (by omega), pk_un (by omega), pk_un (by omega)]
      exact g4 j (by omega) (by omega)
def chn (r : Nat → Int32) (K : Nat) (M M' : Nat → Nat) : Prop := ∃ C : Nat → Nat → Nat, C 0 = M ∧ C K = M' ∧ ∀ k, k < K → one r k (C k) (C (k + 1))
theorem chn_0 (r : Nat → Int32) (M : Nat → Nat) : chn r 0 M M := ⟨fun _ => M, rfl, rfl, fun k hk => absurd hk (Nat.not_lt_zero _)⟩
theorem chn_next {r r' : Nat → Int32} {K : Nat} {M M1 M2 : Nat → Nat} (h : chn r K M M1) (e : ∀ j, j < 5 * K → r' j = r j) (g : one r' K M1 M2) : chn r' (K + 1) M M2 := by
  obtain ⟨C, h1, h2, h3⟩ := h
  refine ⟨fun k => if k ≤ K then C k else M2, ?_, ?_, fun k hk => ?_⟩
  · show (if 0 ≤ K then C 0 else M2) = M
    rw [if_pos (Nat.zero_le _)]; exact h1
  · show (if K + 1 ≤ K then C (K + 1) else M2) = M2
    rw [if_neg (by omega)]
  · show one r' k (if k ≤ K then C k else M2) (if k + 1 ≤ K then C (k + 1) else M2)
    rw [if_pos (show k ≤ K by omega)]
    by_cases c : k = K
    · subst c
      rw [if_neg (by omega), h2]
      exact g
    · rw [if_pos (by omega)]
      exact one_cong (fun j hj => e _ (by omega)) (h3 k (by omega))
theorem tl_111 {N K T : Nat} {C : Nat → Nat → Nat} {τ0 : tw_T} (hN : 8 ≤ N) (hK : K < 120) (h14 : τ0 190 14 = nI K) (hC : ∀ k, k < K → one (τ0 197) k (C k) (C (k + 1))) : ∀ d k fuel (R : Nat → Int32), k + d = K → d < fuel → okT T (C k) → rowT R (C k) → oth R (τ0 191) →
    lf_X9_text_111 N fuel (nI k) (tw_sr τ0 191 R) = nI K ∧ (∃ R', lg_X9_text_111 N fuel (nI k) (tw_sr τ0 191 R) = tw_sr τ0 191 R' ∧ rowT R' (C K) ∧ oth R' (τ0 191)) ∧ lo_X9_text_111 N fuel (nI k) (tw_sr τ0 191 R) ∧ okT T (C K) := by
  intro d
  induction d with
  | zero =>
    intro k fuel R hk hf ok row ho
    obtain ⟨u, rfl⟩ : ∃ u, fuel = u + 1 := ⟨fuel - 1, by omega⟩
    have e : k = K := by omega
    subst e
    have hle : nI k ≤ nI k := nI_le (Nat.le_refl _) (by omega)
    rw [lf_X9_text_111, lg_X9_text_111, lo_X9_text_111, sr_ne (by decide), h14, if_pos hle, if_pos hle, if_pos hle]
    exact ⟨rfl, ⟨R, rfl, row, ho⟩, trivial, ok⟩
  | succ d ih =>
    intro k fuel R hk hf ok row ho
    obtain ⟨u, rfl⟩ : ∃ u, fuel = u + 1 := ⟨fuel - 1, by omega⟩
    have hgt : ¬ nI K ≤ nI k := nI_ge (by omega) (by omega)
    have ho1 := hC k (by omega)
    obtain ⟨⟨R1, a1, a2, a3⟩, a4⟩ := m_one (N := N) (τ := tw_sr τ0 191 R) hN (show k < 120 by omega) ok (by rw [sr_self]; exact row) (by rw [sr_ne (by decide)]; exact ho1)
    rw [sr_sr] at a1
    rw [sr_self] at a3
    obtain ⟨b1, b2, b3, b4⟩ := ih (k + 1) u R1 (by omega) (by omega) (one_ok ok ho1) a2 (fun j hj => (a3 j hj).trans (ho j hj))
    rw [lf_X9_text_111, lg_X9_text_111, lo_X9_text_111, sr_ne (by decide), h14, if_neg hgt, if_neg hgt, if_neg hgt, a1, nI_1]
    exact ⟨b1, b2, ⟨a4, b3⟩, b4⟩
/-! the end of the reference's reading -/
/-- it failed at bf -/
def endF (bf : Nat) (τ : tw_T) (f : Int32) (τ' : tw_T) (p : Prop) : Prop := f = -1 - nI bf ∧ (∀ q, q ≠ 190 → τ' q = τ q) ∧ (∀ j, j < 6 → τ' 190 j = τ 190 j) ∧ τ' 190 6 = 0 ∧ p
theorem e_wrong {N bf : Nat} {τ : tw_T} (hN : 0 < N) (h1 : τ 190 11 = 1) (h7 : τ 190 7 = nI bf) : endF bf τ (lf_X9_text_74 N N τ) (lg_X9_text_74 N N τ) (lo_X9_text_74 N N τ) := by
  obtain ⟨P, rfl⟩ : ∃ P, N = P + 1 := ⟨N - 1, by omega⟩
  have hm : ∀ x, g_X9_must (P + 1) x τ = τ ∧ p_X9_must (P + 1) x τ := fun x => by
    have n0 : ¬ τ 190 11 = 0 := by rw [h1]; decide
    have e : upd (τ 190) 11 1 = τ 190 := upd_eq h1
    unfold g_X9_must p_X9_must
    rw [if_neg n0, if_neg n0, e, sr_id, if_neg n0, if_neg n0]
    exact ⟨rfl, trivial⟩
  have n0 : ¬ (tw_sr τ 190 (upd (τ 190) 6 0)) 190 11 = 0 := by rw [sr_self, pk_un (by decide), h1]; decide
  have key : endF bf τ (lf_X9_text_90 (P + 1) (P + 1) τ) (lg_X9_text_90 (P + 1) (P + 1) τ) (lo_X9_text_90 (P + 1) (P + 1) τ) := by
    unfold endF
    rw [lf_X9_text_90, lg_X9_text_90, lo_X9_text_90, if_neg n0, if_neg n0, if_neg n0, sr_self, pk_un (show 7 ≠ 6 by decide), h7]
    exact ⟨rfl, fun q hq => sr_ne hq, fun j hj => pk_un (by omega), pk_us, trivial⟩
  obtain ⟨k1, k2, k3, k4, k5⟩ := key
  unfold endF
  rw [lf_X9_text_74, lg_X9_text_74, lo_X9_text_74, (hm 0).1, (hm 1).1]
  split
  · exact ⟨k1, k2, k3, k4, (hm 1).2, k5⟩
  · exact ⟨k1, k2, k3, k4, (hm 0).2, k5⟩
theorem e_bad {N n b K m : Nat} {B : Nat → Nat} {τ : tw_T} (hN : 0 < N) (h : mS B n b K m τ) (ht : ¬ tA B n b = 0) : endF b τ (lf_X9_text_74 N N τ) (lg_X9_text_74 N N τ) (lo_X9_text_74 N N τ) := by
  obtain ⟨P, rfl⟩ : ∃ P, N = P + 1 := ⟨N - 1, by omega⟩
  obtain ⟨z1, z2, z3⟩ := m_must0 (N := P + 1) h
  have hta := tA_le B n b
  have n0 : ¬ τ 190 9 = 0 := fun q => by
    rw [h.1.2.2.2.1] at q
    exact ht ((nI_eq (b := 0) (by omega) (by decide)).mp q)
  have n1 : ¬ (tw_sr (g_X9_must (P + 1) 0 τ) 190 (upd ((g_X9_must (P + 1) 0 τ) 190) 6 0)) 190 11 = 0 := by rw [sr_self, pk_un (by decide), z1.1]; decide
  unfold endF
  rw [lf_X9_text_74, lg_X9_text_74, lo_X9_text_74, if_neg n0, if_neg n0, if_neg n0, lf_X9_text_90, lg_X9_text_90, lo_X9_text_90, if_neg n1, if_neg n1, if_neg n1, sr_self, pk_un (show 7 ≠ 6 by decide), z1.2.1]
  exact ⟨rfl, fun q hq => by rw [sr_ne hq, z2.1 q hq], fun j hj => by rw [pk_un (by omega), z2.2 j (by omega)], pk_us, z3, trivial⟩
theorem e_ok {N n b K T m : Nat} {B M M' : Nat → Nat} {τ : tw_T} (hn : n ≤ 120) (hB : ∀ j, B j < 256) (hN : 130 ≤ N) (hbn : b ≤ n) (hK : K < 120) (h : mS B n b K m τ) (ht : tA B n b = 0) (ok : okT T M) (row : rowT (τ 191) M) (hc : chn (τ 197) K M M') :
    lf_X9_text_74 N N τ = nI K ∧ lo_X9_text_74 N N τ ∧ (∀ q, q ≠ 190 → q ≠ 191 → lg_X9_text_74 N N τ q = τ q) ∧ (∀ j, j < 6 → lg_X9_text_74 N N τ 190 j = τ 190 j) ∧ lg_X9_text_74 N N τ 190 6 = 0 ∧ rowT (lg_X9_text_74 N N τ 191) M' ∧ oth (lg_X9_text_74 N N τ 191) (τ 191) ∧ okT T M' := by
  obtain ⟨P, rfl⟩ : ∃ P, N = P + 1 := ⟨N - 1, by omega⟩
  obtain ⟨s1, s2, s3⟩ := m_must1 (N := P + 1) hn hB hN hbn h
  have z0 : τ 190 9 = 0 := by rw [h.1.2.2.2.1, ht]; rfl
  have z1 : (tw_sr (g_X9_must (P + 1) 1 τ) 190 (upd ((g_X9_must (P + 1) 1 τ) 190) 6 0)) 190 11 = 0 := by rw [sr_self, pk_un (by decide)]; exact s1.2.1
  obtain ⟨C, C1, C2, C3⟩ := hc
  generalize hG : tw_sr (g_X9_must (P + 1) 1 τ) 190 (upd ((g_X9_must (P + 1) 1 τ) 190) 6 0) = G at *
  have g191 : G 191 = τ 191 := by rw [← hG, sr_ne (by decide), s2.1 191 (by decide)]
  have g197 : G 197 = τ 197 := by rw [← hG, sr_ne (by decide), s2.1 197 (by decide)]
  have g14 : G 190 14 = nI K := by rw [← hG, sr_self, pk_un (by decide)]; exact s1.2.2.1
  obtain ⟨b1, ⟨R', b2, b3, b4⟩, b5, b6⟩ := tl_111 (N := P + 1) (C := C) (τ0 := G) (T := T) (by omega) hK g14 (fun k hk => by rw [g197]; exact C3 k hk) K 0 (P + 1) (G 191) (by omega) (by omega) (by rw [C1]; exact ok) (by rw [C1, g191]; exact row) (fun _ _ => rfl)
  rw [sr_id] at b1 b2 b5
  rw [C2] at b3 b6
  have hz : nI 0 = (0 : Int32) := rfl
  rw [hz] at b1 b2 b5
  rw [lf_X9_text_74, lg_X9_text_74, lo_X9_text_74, if_pos z0, if_pos z0, if_pos z0, lf_X9_text_90, lg_X9_text_90, lo_X9_text_90]
  rw [hG, if_pos z1, if_pos z1, if_pos z1, b2]
  refine ⟨b1, ⟨s3, b5⟩, fun q h1 h2 => ?_, fun j hj => ?_, ?_, ?_, ?_, b6⟩
  · rw [sr_ne h2, ← hG, sr_ne h1, s2.1 q h1]
  · rw [sr_ne (by decide), ← hG, sr_self, pk_un (by omega), s2.2 j (by omega)]
  · rw [sr_ne (by decide), ← hG, sr_self, pk_us]
  · rw [sr_self]; exact b3
  · rw [sr_self]
    rw [g191] at b4
    exact b4
