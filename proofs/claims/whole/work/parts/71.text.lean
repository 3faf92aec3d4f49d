/-! ===== the call text ===== -/
theorem one_le {K : Nat} {r : Nat → Int32} {M M' : Nat → Nat} (h : one r K M M') : M 1 ≤ M' 1 := by
  rcases h with ⟨a, v, h1, h2, h3, h4, rfl⟩ | ⟨s, h1, h2, h3, h4, h5, rfl⟩
  · rw [mU_ne (by omega)]; exact Nat.le_refl _
  · show M 1 ≤ M 1 + 1; omega
/-- how both readers end -/
def txR (n T : Nat) (M0 : Nat → Nat) (τc τm : tw_T) (fc : Int32) (gc : tw_T) (pc : Prop) (fm : Int32) (gm : tw_T) (pm : Prop) : Prop :=
  pc ∧ pm ∧ (∀ q, q ≠ 27 → (q < 32 ∨ 43 ≤ q) → gc q = τc q) ∧ (∀ q, q ≠ 190 → q ≠ 191 → q ≠ 197 → gm q = τm q) ∧ (∀ j, j < 6 → gm 190 j = τm 190 j) ∧ gm 190 6 = 0 ∧
  ((∃ bf, bf ≤ n ∧ fc = -1 - nI bf ∧ fm = -1 - nI bf ∧ gm 191 = τm 191) ∨ ∃ K' M', K' < 120 ∧ fc = nI K' ∧ fm = nI K' ∧ stC gc 31 M' ∧ okT T M' ∧ M0 1 ≤ M' 1 ∧ rowT (gm 191) M' ∧ oth (gm 191) (τm 191))
theorem t_loop {N n T : Nat} {B M0 : Nat → Nat} (hn : n ≤ 120) (hB : ∀ j, B j < 256) (hN : 130 ≤ N) (ok0 : okT T M0) : ∀ d b K M fuel fuel' (τc τm : tw_T), n - b ≤ d → b ≤ n → 2 * K ≤ b → d < fuel → d < fuel' → okT T M → M0 1 ≤ M 1 → curC B n b τc → stC τc 31 M → mS B n b K (M 1) τm → chn (τm 197) K M0 M → rowT (τm 191) M0 →
    p_X9_readItem N τm ∧ txR n T M0 τc τm (lf_X7_readText_11 N fuel (nI (K + 1)) τc) (lg_X7_readText_11 N fuel (nI (K + 1)) τc) (lo_X7_readText_11 N fuel (nI (K + 1)) τc) (lf_X9_text_33 N fuel' (g_X9_readItem N τm)) (lg_X9_text_33 N fuel' (g_X9_readItem N τm)) (lo_X9_text_33 N fuel' (g_X9_readItem N τm)) := by
  intro d
  induction d with
  | zero =>
    intro b K M fuel fuel' τc τm hd hbn h2 hf hf' ok hle hc hst hm hch row
    obtain ⟨u, rfl⟩ : ∃ u, fuel = u + 1 := ⟨fuel - 1, by omega⟩
    obtain ⟨u', rfl⟩ : ∃ u', fuel' = u' + 1 := ⟨fuel' - 1, by omega⟩
    have hb : b = n := by omega
    -- nothing stands there: the item fails at once
    obtain ⟨c1, c2, c3, c4, c5⟩ := c_item (N := N) hn hB hN hbn hc ok hst
    obtain ⟨⟨m1, m2, m3⟩, m4⟩ := m_item (N := N) hn hB hN hbn (show K < 120 by omega) ok hm
    have hno : ¬ (itm B n b M).1 = true := fun q => by
      have := (itm_ok hbn ok q).1
      have := (itm_ok hbn ok q).2.1
      omega
    have hno' : (itm B n b M).1 = false := by simpa using hno
    have h120 : ¬ (120 : Int32) < nI (K + 1) := nI_nlt (a := 120) (b := K + 1) (by omega) (by decide)
    obtain ⟨w1, w2⟩ := m3 hno'
    have n11 : ¬ g_X9_readItem N τm 190 11 = 0 := by rw [w1]; decide
    obtain ⟨e1, e2, e3, e4, e5⟩ := e_wrong (N := N) (by omega) w1 w2
    have k3 : g_X7_readItem N τc 27 3 = nI (itm B n b M).2.1 := c4.2.2.2.1
    refine ⟨m4, ?_⟩
    unfold txR
    rw [lf_X7_readText_11, lg_X7_readText_11, lo_X7_readText_11, lf_X9_text_33, lg_X9_text_33, lo_X9_text_33, if_neg h120, if_neg h120, if_neg h120, if_neg n11, if_neg n11, if_neg n11, c1, hno', if_pos (bo_f (by decide)), if_pos (bo_f (by decide)), if_pos (bo_f (by decide)), k3]
    exact ⟨⟨c2, trivial⟩, e5, c3, fun q a1 a2 a3 => by rw [e2 q a1, m1.1 q a1 a3], fun j hj => by rw [e3 j hj, m1.2 j (by omega)], e4, Or.inl ⟨_, itm_le hbn, rfl, e1, by rw [e2 191 (by decide), m1.1 191 (by decide) (by decide)]⟩⟩
  | succ d ih =>
    intro b K M fuel fuel' τc τm hd hbn h2 hf hf' ok hle hc hst hm hch row
    obtain ⟨u, rfl⟩ : ∃ u, fuel = u + 1 := ⟨fuel - 1, by omega⟩
    obtain ⟨u', rfl⟩ : ∃ u', fuel' = u' + 1 := ⟨fuel' - 1, by omega⟩
    obtain ⟨c1, c2, c3, c4, c5⟩ := c_item (N := N) hn hB hN hbn hc ok hst
    obtain ⟨⟨m1, m2, m3⟩, m4⟩ := m_item (N := N) hn hB hN hbn (show K < 120 by omega) ok hm
    have h120 : ¬ (120 : Int32) < nI (K + 1) := nI_nlt (a := 120) (b := K + 1) (by omega) (by decide)
    have k3 : g_X7_readItem N τc 27 3 = nI (itm B n b M).2.1 := c4.2.2.2.1
    have k2 : g_X7_readItem N τc 27 2 = nI (tC B n (itm B n b M).2.1) := c4.2.2.1
    refine ⟨m4, ?_⟩
    unfold txR
    rw [lf_X7_readText_11, lg_X7_readText_11, lo_X7_readText_11, lf_X9_text_33, lg_X9_text_33, lo_X9_text_33, if_neg h120, if_neg h120, if_neg h120, c1, k2, k3]
    by_cases hok : (itm B n b M).1 = true
    · obtain ⟨o1, o2, o3⟩ := itm_ok hbn ok hok
      have st2 := c5 hok
      obtain ⟨s1, s2, s3⟩ := m2 hok
      have hch' := chn_next hch s3 s2
      have hle' := one_le s2
      have htc := tC_le B n (itm B n b M).2.1
      have hta := tA_le B n (itm B n b M).2.1
      have z11 : g_X9_readItem N τm 190 11 = 0 := s1.2.1
      have k9 : g_X9_readItem N τm 190 9 = nI (tA B n (itm B n b M).2.1) := s1.1.2.2.2.1
      have k7 : g_X9_readItem N τm 190 7 = nI (itm B n b M).2.1 := s1.1.2.1
      have rowI : rowT (g_X9_readItem N τm 191) M0 := by rw [m1.1 191 (by decide) (by decide)]; exact row
      have i0 : nI (tC B n (itm B n b M).2.1) = (0 : Int32) ↔ tC B n (itm B n b M).2.1 = 0 := nI_eq (b := 0) (by omega) (by decide)
      have i3 : nI (tC B n (itm B n b M).2.1) = (3 : Int32) ↔ tC B n (itm B n b M).2.1 = 3 := nI_eq (b := 3) (by omega) (by decide)
      have j3 : nI (tA B n (itm B n b M).2.1) = (3 : Int32) ↔ tA B n (itm B n b M).2.1 = 3 := nI_eq (b := 3) (by omega) (by decide)
      rw [if_neg (bo_t hok), if_neg (bo_t hok), if_neg (bo_t hok), if_pos z11, if_pos z11, if_pos z11, k9, k7, nI_clamp (by omega)]
      simp only [i0, i3, j3]
      -- the reference ends, at a token that can't stand there
      have bad : ¬ tA B n (itm B n b M).2.1 = 0 → endF (itm B n b M).2.1 (g_X9_readItem N τm) (lf_X9_text_74 N N (g_X9_readItem N τm)) (lg_X9_text_74 N N (g_X9_readItem N τm)) (lo_X9_text_74 N N (g_X9_readItem N τm)) := fun ht => e_bad (by omega) s1 ht
      have fin : ¬ tA B n (itm B n b M).2.1 = 0 → ∀ gc : tw_T, (∀ q, q ≠ 27 → (q < 32 ∨ 43 ≤ q) → gc q = τc q) → (∀ q, q ≠ 27 → (q < 32 ∨ 43 ≤ q) → gc q = τc q) ∧ (∀ q, q ≠ 190 → q ≠ 191 → q ≠ 197 → lg_X9_text_74 N N (g_X9_readItem N τm) q = τm q) ∧ (∀ j, j < 6 → lg_X9_text_74 N N (g_X9_readItem N τm) 190 j = τm 190 j) ∧ lg_X9_text_74 N N (g_X9_readItem N τm) 190 6 = 0 ∧ ((∃ bf, bf ≤ n ∧ -1 - nI (itm B n b M).2.1 = -1 - nI bf ∧ lf_X9_text_74 N N (g_X9_readItem N τm) = -1 - nI bf ∧ lg_X9_text_74 N N (g_X9_readItem N τm) 191 = τm 191) ∨ ∃ K' M', K' < 120 ∧ -1 - nI (itm B n b M).2.1 = nI K' ∧ lf_X9_text_74 N N (g_X9_readItem N τm) = nI K' ∧ stC gc 31 M' ∧ okT T M' ∧ M0 1 ≤ M' 1 ∧ rowT (lg_X9_text_74 N N (g_X9_readItem N τm) 191) M' ∧ oth (lg_X9_text_74 N N (g_X9_readItem N τm) 191) (τm 191)) := fun ht gc hgc => by
        obtain ⟨e1, e2, e3, e4, e5⟩ := bad ht
        exact ⟨hgc, fun q a1 a2 a3 => by rw [e2 q a1, m1.1 q a1 a3], fun j hj => by rw [e3 j hj, m1.2 j (by omega)], e4, Or.inl ⟨_, o2, rfl, e1, by rw [e2 191 (by decide), m1.1 191 (by decide) (by decide)]⟩⟩
      by_cases t0 : tA B n (itm B n b M).2.1 = 0
      · have t0c : tC B n (itm B n b M).2.1 = 0 := (tC_eq (by decide)).mpr t0
        have t3 : ¬ tA B n (itm B n b M).2.1 = 3 := by omega
        obtain ⟨e1, e2, e3, e4, e5, e6, e7, e8⟩ := e_ok (N := N) hn hB hN o2 (show K + 1 < 120 by omega) s1 t0 ok0 rowI hch'
        rw [if_pos t0c, if_pos t0c, if_pos t0c, if_neg t3, if_neg t3, if_neg t3]
        refine ⟨⟨c2, trivial⟩, e2, c3, fun q a1 a2 a3 => by rw [e3 q a1 a2, m1.1 q a1 a3], fun j hj => by rw [e4 j hj, m1.2 j (by omega)], e5, Or.inr ⟨K + 1, _, by omega, rfl, e1, st2, o3, by omega, e6, ?_⟩⟩
        rw [m1.1 191 (by decide) (by decide)] at e7
        exact e7
      · have t0c : ¬ tC B n (itm B n b M).2.1 = 0 := fun q => t0 ((tC_eq (by decide)).mp q)
        have hlt := tA_lt t0
        rw [if_neg t0c, if_neg t0c, if_neg t0c]
        by_cases t3 : tA B n (itm B n b M).2.1 = 3
        · have e195 : g_X9_readItem N τm 195 (itm B n b M).2.1 = nI (B (itm B n b M).2.1) := s1.1.1.2 _ hlt
          have hBb := hB (itm B n b M).2.1
          have i59 : nI (B (itm B n b M).2.1) = (59 : Int32) ↔ B (itm B n b M).2.1 = 59 := nI_eq (b := 59) (by omega) (by decide)
          have hv : vp_in (nI (itm B n b M).2.1) 120 := vp_in_nI (by omega) (by decide)
          rw [if_pos t3, if_pos t3, if_pos t3, e195]
          simp only [i59]
          by_cases t59 : B (itm B n b M).2.1 = 59
          · have t3c : tC B n (itm B n b M).2.1 = 3 := by
              unfold tC
              rw [if_neg (fun q => q.2 t59)]
              exact t3
            obtain ⟨x1, x2, x3⟩ := c_step (N := N) hn hB hN o2 c4
            obtain ⟨y1, y2, y3⟩ := m_must1 (N := N) hn hB hN o2 s1
            have hgt := nx_gt (B := B) hlt
            have hnx := (nx_le (B := B) o2).2
            have stn : stC (g_X7_nextToken N (g_X7_readItem N τc)) 31 (itm B n b M).2.2 := by
              obtain ⟨p1, p2, p3⟩ := st2
              exact ⟨by rw [x2 _ (by decide)]; exact p1, by rw [x2 _ (by decide)]; exact p2, fun i hi => by have := o3.2.1; rw [x2 _ (by omega)]; exact p3 i hi⟩
            obtain ⟨r1, r2, r3, r4, r5, r6, r7, r8⟩ := ih (nx B n (itm B n b M).2.1) (K + 1) (itm B n b M).2.2 u u' (g_X7_nextToken N (g_X7_readItem N τc)) (g_X9_must N 1 (g_X9_readItem N τm)) (by omega) hnx (by omega) (by omega) (by omega) o3 (by omega) x1 stn y1 (by rw [y2.1 197 (by decide)]; exact hch') (by rw [y2.1 191 (by decide)]; exact rowI)
            rw [if_pos t3c, if_pos t3c, if_pos t3c, if_pos t59, if_pos t59, if_pos t59, nI_1]
            refine ⟨⟨c2, x3, r2⟩, ⟨hv, y3, r1, r3⟩, fun q a1 a2 => by rw [r4 q a1 a2, x2 q a1, c3 q a1 a2], fun q a1 a2 a3 => by rw [r5 q a1 a2 a3, y2.1 q a1, m1.1 q a1 a3], fun j hj => by rw [r6 j hj, y2.2 j (by omega), m1.2 j (by omega)], r7, ?_⟩
            have e191 : g_X9_must N 1 (g_X9_readItem N τm) 191 = τm 191 := by rw [y2.1 191 (by decide), m1.1 191 (by decide) (by decide)]
            rw [e191] at r8
            exact r8
          · have t3c : ¬ tC B n (itm B n b M).2.1 = 3 := by
              unfold tC
              rw [if_pos ⟨t3, t59⟩]
              decide
            rw [if_neg t3c, if_neg t3c, if_neg t3c, if_neg t59, if_neg t59, if_neg t59]
            exact ⟨⟨c2, trivial⟩, ⟨hv, (bad t0).2.2.2.2⟩, fin t0 _ c3⟩
        · have t3c : ¬ tC B n (itm B n b M).2.1 = 3 := by
            unfold tC
            rw [if_neg (fun q => t3 q.1)]
            exact t3
          rw [if_neg t3c, if_neg t3c, if_neg t3c, if_neg t3, if_neg t3, if_neg t3]
          exact ⟨⟨c2, trivial⟩, (bad t0).2.2.2.2, fin t0 _ c3⟩
    · have hno' : (itm B n b M).1 = false := by simpa using hok
      obtain ⟨w1, w2⟩ := m3 hno'
      have n11 : ¬ g_X9_readItem N τm 190 11 = 0 := by rw [w1]; decide
      obtain ⟨e1, e2, e3, e4, e5⟩ := e_wrong (N := N) (by omega) w1 w2
      rw [if_neg n11, if_neg n11, if_neg n11, hno', if_pos (bo_f (by decide)), if_pos (bo_f (by decide)), if_pos (bo_f (by decide))]
      exact ⟨⟨c2, trivial⟩, e5, c3, fun q a1 a2 a3 => by rw [e2 q a1, m1.1 q a1 a3], fun j hj => by rw [e3 j hj, m1.2 j (by omega)], e4, Or.inl ⟨_, itm_le hbn, rfl, e1, by rw [e2 191 (by decide), m1.1 191 (by decide) (by decide)]⟩⟩
