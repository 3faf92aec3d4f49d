/-! ===== an item of a text, read by the class ===== -/
def plusS (M s : Nat → Nat) : Nat → Nat := fun j => if j = 1 then M 1 + 1 else if 17 + 7 * M 1 ≤ j ∧ j < 24 + 7 * M 1 then s (j - (17 + 7 * M 1)) else M j
theorem plusS_lo (M s : Nat → Nat) {j : Nat} (h1 : j ≠ 1) (h : j < 17 + 7 * M 1 ∨ 24 + 7 * M 1 ≤ j) : plusS M s j = M j := by
  unfold plusS
  rw [if_neg h1, if_neg (by omega)]
theorem plusS_in (M s : Nat → Nat) {a : Nat} (h : a < 7) : plusS M s (17 + 7 * M 1 + a) = s a := by
  unfold plusS
  rw [if_neg (by omega), if_pos (by omega), show 17 + 7 * M 1 + a - (17 + 7 * M 1) = a by omega]
theorem okT_plusS {T : Nat} {M s : Nat → Nat} (h : okT T M) (hm : M 1 < 8) (hs : okS s) : okT T (plusS M s) := by
  refine ⟨?_, ?_, fun j a b d => ?_⟩
  · rw [plusS_lo M s (by decide) (by omega)]; exact h.1
  · show (if 1 = 1 then M 1 + 1 else _) ≤ 8
    rw [if_pos rfl]
    omega
  · by_cases c : 17 + 7 * M 1 ≤ j ∧ j < 24 + 7 * M 1
    · obtain ⟨f, rfl⟩ : ∃ f, j = 17 + 7 * M 1 + f := ⟨j - (17 + 7 * M 1), by omega⟩
      have hf : f < 7 := by omega
      rw [plusS_in M s hf, bd_ship hf]
      exact okS_iff.mp hs f hf
    · rw [plusS_lo M s (by omega) (by omega)]
      exact h.2.2 j a b d
theorem okS_new {k : Nat} (hk : k < 7) : okS (newS k 11) := ⟨hk, (by decide : 11 < 24), (by decide : 1 < 2), (by decide : 1 < 6), (by decide : 0 < 2), (by decide : 0 < 10000), (by decide : 0 < 10000)⟩
theorem rPt_ok {B s : Nat → Nat} {n b : Nat} (hbn : b ≤ n) (h : okS s) : b ≤ (rPt B n b s).2.1 ∧ (rPt B n b s).2.1 ≤ n ∧ okS (rPt B n b s).2.2 := by
  have := nx_le (B := B) hbn
  unfold rPt
  split
  · exact ⟨this.1, this.2, okS_mU h (by decide) (by decide)⟩
  · exact ⟨Nat.le_refl _, hbn, h⟩
theorem rSp_ok {B s : Nat → Nat} {n b : Nat} (hbn : b ≤ n) (h : okS s) : b ≤ (rSp B n b s).2.1 ∧ (rSp B n b s).2.1 ≤ n ∧ okS (rSp B n b s).2.2 := by
  have h1 := nx_le (B := B) hbn
  have h2 := nx_le (B := B) h1.2
  unfold rSp
  split
  · split
    · rename_i c
      have := rPt_ok (B := B) h2.2 (okS_mU h (j := 3) (by decide) (okN_v c).2)
      exact ⟨by omega, this.2⟩
    · exact ⟨h1.1, h1.2, h⟩
  · exact rPt_ok hbn h
theorem rBk_ok {B s : Nat → Nat} {n b : Nat} (hbn : b ≤ n) (h : okS s) : b ≤ (rBk B n b s).2.1 ∧ (rBk B n b s).2.1 ≤ n ∧ okS (rBk B n b s).2.2 := by
  have h1 := nx_le (B := B) hbn
  unfold rBk
  split
  · have := rSp_ok (B := B) h1.2 (okS_mU h (j := 2) (v := 0) (by decide) (by decide))
    exact ⟨by omega, this.2⟩
  · exact rSp_ok hbn h
theorem rAt_ok {B s : Nat → Nat} {n b : Nat} (hbn : b ≤ n) (h : okS s) : b ≤ (rAt B n b s).2.1 ∧ (rAt B n b s).2.1 ≤ n ∧ okS (rAt B n b s).2.2 := by
  have h1 := nx_le (B := B) hbn
  have h2 := nx_le (B := B) h1.2
  unfold rAt
  split
  · split
    · rename_i c
      have := rBk_ok (B := B) h2.2 (okS_mU h (j := 1) (by decide) (okN_v c).2)
      exact ⟨by omega, this.2⟩
    · exact ⟨h1.1, h1.2, h⟩
  · exact rBk_ok hbn h
def kd (B : Nat → Nat) (n b : Nat) : Nat := if wdB B n b (wL 0) then 0 else if wdB B n b (wL 1) then 1 else if wdB B n b (wL 2) then 2 else if wdB B n b (wL 3) then 3 else if wdB B n b (wL 4) then 4 else if wdB B n b (wL 5) then 5 else if wdB B n b (wL 6) then 6 else 7
def lgt (B : Nat → Nat) (n b : Nat) (M : Nat → Nat) (a : Nat) : Bool × Nat × (Nat → Nat) := (okN B n b (bd (3 + a)), (if okN B n b (bd (3 + a)) then nx B n (nx B n b) else nx B n b), mU M (3 + a) (vA B n (nx B n b)))
def itm (B : Nat → Nat) (n b : Nat) (M : Nat → Nat) : Bool × Nat × (Nat → Nat) := if kd B n b < 7 then (if 8 ≤ M 1 then (false, b, M) else ((rAt B n (nx B n b) (newS (kd B n b) 11)).1, (rAt B n (nx B n b) (newS (kd B n b) 11)).2.1, plusS M (rAt B n (nx B n b) (newS (kd B n b) 11)).2.2)) else if wdB B n b (wL 11) then lgt B n b M 0 else if wdB B n b (wL 12) then lgt B n b M 1 else if wdB B n b (wL 13) then lgt B n b M 2 else (false, b, M)
theorem kd_word {B : Nat → Nat} {n b : Nat} (h : kd B n b < 7) : wdB B n b (wL (kd B n b)) = true := by
  unfold kd at *
  by_cases c0 : wdB B n b (wL 0) = true
  · rw [if_pos c0]; exact c0
  rw [if_neg c0] at *
  by_cases c1 : wdB B n b (wL 1) = true
  · rw [if_pos c1]; exact c1
  rw [if_neg c1] at *
  by_cases c2 : wdB B n b (wL 2) = true
  · rw [if_pos c2]; exact c2
  rw [if_neg c2] at *
  by_cases c3 : wdB B n b (wL 3) = true
  · rw [if_pos c3]; exact c3
  rw [if_neg c3] at *
  by_cases c4 : wdB B n b (wL 4) = true
  · rw [if_pos c4]; exact c4
  rw [if_neg c4] at *
  by_cases c5 : wdB B n b (wL 5) = true
  · rw [if_pos c5]; exact c5
  rw [if_neg c5] at *
  by_cases c6 : wdB B n b (wL 6) = true
  · rw [if_pos c6]; exact c6
  rw [if_neg c6] at h
  exact absurd h (by decide)
theorem kd_no {B : Nat → Nat} {n b : Nat} (h : ¬ kd B n b < 7) : ∀ w, w < 7 → wdB B n b (wL w) = false := by
  have key : wdB B n b (wL 0) = false ∧ wdB B n b (wL 1) = false ∧ wdB B n b (wL 2) = false ∧ wdB B n b (wL 3) = false ∧ wdB B n b (wL 4) = false ∧ wdB B n b (wL 5) = false ∧ wdB B n b (wL 6) = false := by
    unfold kd at h
    cases c0 : wdB B n b (wL 0) <;> cases c1 : wdB B n b (wL 1) <;> cases c2 : wdB B n b (wL 2) <;> cases c3 : wdB B n b (wL 3) <;> cases c4 : wdB B n b (wL 4) <;> cases c5 : wdB B n b (wL 5) <;> cases c6 : wdB B n b (wL 6) <;> simp_all
  intro w hw
  rcases f7 hw with rfl | rfl | rfl | rfl | rfl | rfl | rfl
  · exact key.1
  · exact key.2.1
  · exact key.2.2.1
  · exact key.2.2.2.1
  · exact key.2.2.2.2.1
  · exact key.2.2.2.2.2.1
  · exact key.2.2.2.2.2.2
theorem kd_le (B : Nat → Nat) (n b : Nat) : kd B n b ≤ 7 := by
  unfold kd
  repeat' split
  all_goals omega
theorem itm_ok {B M : Nat → Nat} {n b T : Nat} (hbn : b ≤ n) (ok : okT T M) (h : (itm B n b M).1 = true) : b < (itm B n b M).2.1 ∧ (itm B n b M).2.1 ≤ n ∧ okT T (itm B n b M).2.2 := by
  have lg : ∀ a, a < 3 → b < n → (lgt B n b M a).1 = true → b < (lgt B n b M a).2.1 ∧ (lgt B n b M a).2.1 ≤ n ∧ okT T (lgt B n b M a).2.2 := by
    intro a ha hlt q
    have q' : okN B n b (bd (3 + a)) = true := q
    have h1 := nx_le (B := B) hbn
    have h2 := nx_le (B := B) h1.2
    have h3 := nx_gt (B := B) hlt
    unfold lgt
    rw [if_pos q']
    exact ⟨by show b < nx B n (nx B n b); omega, h2.2, okT_mU ok (by omega) (by omega) (by omega) (okN_v q').2⟩
  unfold itm at *
  by_cases c : kd B n b < 7
  · rw [if_pos c] at *
    by_cases d : 8 ≤ M 1
    · rw [if_pos d] at h; exact absurd (show false = true from h) (by decide)
    · rw [if_neg d] at *
      have hlt := wd_lt (kd_word c)
      have h1 := nx_le (B := B) hbn
      have h3 := nx_gt (B := B) hlt
      have r := rAt_ok (B := B) h1.2 (okS_new c)
      exact ⟨by show b < (rAt B n (nx B n b) (newS (kd B n b) 11)).2.1; omega, r.2.1, okT_plusS ok (by omega) r.2.2⟩
  · rw [if_neg c] at *
    by_cases c1 : wdB B n b (wL 11) = true
    · rw [if_pos c1] at *; exact lg 0 (by decide) (wd_lt c1) h
    rw [if_neg c1] at *
    by_cases c2 : wdB B n b (wL 12) = true
    · rw [if_pos c2] at *; exact lg 1 (by decide) (wd_lt c2) h
    rw [if_neg c2] at *
    by_cases c3 : wdB B n b (wL 13) = true
    · rw [if_pos c3] at *; exact lg 2 (by decide) (wd_lt c3) h
    rw [if_neg c3] at h
    exact absurd (show false = true from h) (by decide)
theorem itm_le {B M : Nat → Nat} {n b : Nat} (hbn : b ≤ n) : (itm B n b M).2.1 ≤ n := by
  have h1 := nx_le (B := B) hbn
  have h2 := nx_le (B := B) h1.2
  have lg : ∀ a, (lgt B n b M a).2.1 ≤ n := by
    intro a
    unfold lgt
    show (if okN B n b (bd (3 + a)) then nx B n (nx B n b) else nx B n b) ≤ n
    split
    · exact h2.2
    · exact h1.2
  unfold itm
  by_cases c : kd B n b < 7
  · rw [if_pos c]
    split
    · exact hbn
    · exact (rAt_ok (B := B) h1.2 (okS_new c)).2.1
  · rw [if_neg c]
    split
    · exact lg 0
    · split
      · exact lg 1
      · split
        · exact lg 2
        · exact hbn
theorem c_kind {N n b : Nat} {B : Nat → Nat} {τ : tw_T} (hn : n ≤ 120) (hN : 130 ≤ N) (hbn : b ≤ n) (h : curC B n b τ) : f_X7_kindOfWord N τ = (if kd B n b < 7 then nI (kd B n b) else -1) ∧ p_X7_kindOfWord N τ := by
  have wd : ∀ w, w < 28 → f_X7_isWord N w τ = boolI (wdB B n b (wL w)) ∧ p_X7_isWord N w τ := fun w hw => c_word hw hn (by omega) hbn h
  obtain ⟨a0, p0⟩ := wd 0 (by decide)
  obtain ⟨a1, p1⟩ := wd 1 (by decide)
  obtain ⟨a2, p2⟩ := wd 2 (by decide)
  obtain ⟨a3, p3⟩ := wd 3 (by decide)
  obtain ⟨a4, p4⟩ := wd 4 (by decide)
  obtain ⟨a5, p5⟩ := wd 5 (by decide)
  obtain ⟨a6, p6⟩ := wd 6 (by decide)
  unfold f_X7_kindOfWord p_X7_kindOfWord kd
  rw [a0, a1, a2, a3, a4, a5, a6]
  have bt : boolI true = 0 ↔ False := by decide
  have bf : boolI false = 0 ↔ True := by decide
  cases wdB B n b (wL 0)
  · cases wdB B n b (wL 1)
    · cases wdB B n b (wL 2)
      · cases wdB B n b (wL 3)
        · cases wdB B n b (wL 4)
          · cases wdB B n b (wL 5)
            · cases wdB B n b (wL 6)
              · exact ⟨rfl, p0, p1, p2, p3, p4, p5, p6, trivial⟩
              · exact ⟨rfl, p0, p1, p2, p3, p4, p5, p6, trivial⟩
            · exact ⟨rfl, p0, p1, p2, p3, p4, p5, trivial⟩
          · exact ⟨rfl, p0, p1, p2, p3, p4, trivial⟩
        · exact ⟨rfl, p0, p1, p2, p3, trivial⟩
      · exact ⟨rfl, p0, p1, p2, trivial⟩
    · exact ⟨rfl, p0, p1, trivial⟩
  · exact ⟨rfl, p0, trivial⟩
theorem nb_bool (x : Bool) : narrow .boolean (.int (boolI x)) = .int (boolI x) := by cases x <;> rfl
theorem bo_01 (x : Bool) : (if boolI x = 0 then (0 : Int32) else 1) = boolI x := by cases x <;> rfl
theorem c_readShip {N n b T w : Nat} {B M : Nat → Nat} {τ : tw_T} (hn : n ≤ 120) (hB : ∀ j, B j < 256) (hN : 130 ≤ N) (hbn : b ≤ n) (h : curC B n b τ) (ok : okT T M) (hw : w < 7) (hst : stC τ 31 M) (hm : M 1 < 8) :
    f_X7_readShip N (nI w) τ = boolI (rAt B n (nx B n b) (newS w 11)).1 ∧ p_X7_readShip N (nI w) τ ∧ (∀ q, q ≠ 27 → (q < 32 ∨ 43 ≤ q) → g_X7_readShip N (nI w) τ q = τ q) ∧ curC B n (rAt B n (nx B n b) (newS w 11)).2.1 (g_X7_readShip N (nI w) τ) ∧ ((rAt B n (nx B n b) (newS w 11)).1 = true → stC (g_X7_readShip N (nI w) τ) 31 (plusS M (rAt B n (nx B n b) (newS w 11)).2.2)) := by
  obtain ⟨hl, hc, hs⟩ := hst
  have hc' : τ 33 1 = nI (M 1) := hc
  obtain ⟨r, l1, l2, l3, l4⟩ := c_launch (τ := τ) (f := 33) (m := M 1) (x1 := nI w) (x2 := 11) hc' hm
  have e11 : ∀ a, a < 7 → r a = nI (newS w 11 a) := fun a ha => (l2 a ha).trans (newI_n w 11 a)
  have hz : (0 : Int32) = 0 := rfl
  have ek : 33 + 2 + (τ 33 1).toNatClampNeg = 33 + 2 + M 1 := by rw [hc', nI_clamp (by omega)]
  rw [rs_f, rs_g, rs_p, l3, if_pos hz, if_pos hz, if_pos hz, ek]
  have hL : curC B n b (g_X1_launch 33 (nI w) 11 τ) := by
    rw [l1]
    exact curC_sr (curC_sr h (by omega) (by omega)) (by decide) (by decide)
  obtain ⟨s1, s2, s3⟩ := c_step (N := N) hn hB hN hbn hL
  have kA : shR ((g_X7_nextToken N (g_X1_launch 33 (nI w) 11 τ)) (33 + 2 + M 1)) (newS w 11) := by
    rw [s2 _ (by omega), l1, sr_ne (by omega), sr_self]
    exact e11
  obtain ⟨t1, t2, t3, t4, t5, t6⟩ := c_At (N := N) (k := 33 + 2 + M 1) hn hB hN (by omega) (nx_le hbn).2 s1 kA
  have fr : ∀ q, q ≠ 27 → q ≠ 33 → q ≠ 33 + 2 + M 1 → gAt N (33 + 2 + M 1) (g_X7_nextToken N (g_X1_launch 33 (nI w) 11 τ)) q = τ q := fun q h1 h2 h3 => by
    rw [t6 q h1 h3, s2 q h1, l1, sr_ne h2, sr_ne h3]
  refine ⟨t1, ⟨by rw [hc']; exact vp_in_nI hm (by decide), l4, s3, t2⟩, fun q h1 h2 => fr q h1 (by omega) (by omega), t3, fun hok => ⟨?_, ?_, fun i hi f hf => ?_⟩⟩
  · show litR (gAt N (33 + 2 + M 1) (g_X7_nextToken N (g_X1_launch 33 (nI w) 11 τ)) 32) _
    rw [fr 32 (by decide) (by decide) (by omega)]
    obtain ⟨q0, q1, q2, q3, q4⟩ := hl
    unfold litR
    rw [plusS_lo M _ (by decide) (by omega), plusS_lo M _ (by decide) (by omega), plusS_lo M _ (by decide) (by omega), plusS_lo M _ (by decide) (by omega), plusS_lo M _ (by decide) (by omega)]
    exact ⟨q0, q1, q2, q3, q4⟩
  · show gAt N (33 + 2 + M 1) (g_X7_nextToken N (g_X1_launch 33 (nI w) 11 τ)) 33 1 = _
    rw [t6 33 (by decide) (by omega), s2 33 (by decide), l1, sr_self, pk_us]
    rfl
  · have hi' : i < M 1 + 1 := hi
    unfold shipN
    by_cases e : i = M 1
    · subst e
      rw [plusS_in M _ hf, show 31 + 4 + M 1 = 33 + 2 + M 1 by omega]
      exact t5 hok f hf
    · rw [plusS_lo M _ (by omega) (by omega), fr _ (by omega) (by omega) (by omega)]
      exact hs i (by omega) f hf
theorem c_item {N n b T : Nat} {B M : Nat → Nat} {τ : tw_T} (hn : n ≤ 120) (hB : ∀ j, B j < 256) (hN : 130 ≤ N) (hbn : b ≤ n) (h : curC B n b τ) (ok : okT T M) (hst : stC τ 31 M) :
    f_X7_readItem N τ = boolI (itm B n b M).1 ∧ p_X7_readItem N τ ∧ (∀ q, q ≠ 27 → (q < 32 ∨ 43 ≤ q) → g_X7_readItem N τ q = τ q) ∧ curC B n (itm B n b M).2.1 (g_X7_readItem N τ) ∧ ((itm B n b M).1 = true → stC (g_X7_readItem N τ) 31 (itm B n b M).2.2) := by
  have hM1 := ok.2.1
  obtain ⟨k1, k2⟩ := c_kind (N := N) hn hN hbn h
  obtain ⟨a11, p11⟩ := c_word (N := N) (w := 11) (by decide) hn (by omega) hbn h
  obtain ⟨a12, p12⟩ := c_word (N := N) (w := 12) (by decide) hn (by omega) hbn h
  obtain ⟨a13, p13⟩ := c_word (N := N) (w := 13) (by decide) hn (by omega) hbn h
  have lit := fun a (ha : a < 3) => c_light (N := N) (a := a) hn hB hN hbn h ha hst.1
  have mk : ∀ a, a < 3 → okN B n b (bd (3 + a)) = true → stC (g_X7_readLight N (nI a) τ) 31 (mU M (3 + a) (vA B n (nx B n b))) := by
    intro a ha hok
    obtain ⟨r1, r2, r3, r4, r5⟩ := lit a ha
    refine ⟨r5 hok, ?_, fun i hi f hf => ?_⟩
    · rw [r3 _ (by decide) (by decide), mU_ne (by omega)]; exact hst.2.1
    · rw [mU_ne (by omega)] at hi
      unfold shipN
      rw [r3 _ (by omega) (by omega), mU_ne (by omega)]
      exact hst.2.2 i hi f hf
  unfold f_X7_readItem g_X7_readItem p_X7_readItem itm
  rw [k1]
  by_cases c : kd B n b < 7
  · have hneg : ¬ nI (kd B n b) < 0 := nI_pos (by omega)
    rw [if_pos c, if_pos c, if_neg hneg, if_neg hneg, if_neg hneg]
    by_cases d : 8 ≤ M 1
    · have e8 : M 1 = 8 := by omega
      have hfull : ¬ f_X1_isFull 33 τ = 0 := by
        unfold f_X1_isFull
        rw [show τ 33 1 = nI (M 1) from hst.2.1, e8]
        decide
      rw [if_pos d, rs_f, rs_g, rs_p, if_neg hfull, if_neg hfull, if_neg hfull]
      exact ⟨rfl, ⟨k2, trivial, rfl, trivial⟩, fun _ _ _ => rfl, h, fun q => absurd (show false = true from q) (by decide)⟩
    · rw [if_neg d]
      obtain ⟨r1, r2, r3, r4, r5⟩ := c_readShip (N := N) (w := kd B n b) hn hB hN hbn h ok c hst (by omega)
      exact ⟨r1, ⟨k2, r2, by rw [r1]; exact nb_bool _, trivial⟩, r3, r4, r5⟩
  · have hneg : (-1 : Int32) < 0 := by decide
    rw [if_neg c, if_neg c, if_pos hneg, if_pos hneg, if_pos hneg, a11, a12, a13]
    unfold wL
    by_cases c1 : wdB B n b (tw_byt.getD 11 []) = true
    · obtain ⟨r1, r2, r3, r4, r5⟩ := lit 0 (by decide)
      have m := mk 0 (by decide)
      rw [if_neg (bo_t c1), if_neg (bo_t c1), if_neg (bo_t c1), if_pos c1]
      have r1' : f_X7_readLight N 0 τ = _ := r1
      exact ⟨r1, ⟨k2, p11, r2, by rw [r1']; exact nb_bool _, trivial⟩, fun q h1 h2 => r3 q h1 (by omega), r4, m⟩
    rw [if_pos (bo_f c1), if_pos (bo_f c1), if_pos (bo_f c1), if_neg c1]
    by_cases c2 : wdB B n b (tw_byt.getD 12 []) = true
    · obtain ⟨r1, r2, r3, r4, r5⟩ := lit 1 (by decide)
      have m := mk 1 (by decide)
      rw [if_neg (bo_t c2), if_neg (bo_t c2), if_neg (bo_t c2), if_pos c2]
      have r1' : f_X7_readLight N 1 τ = _ := r1
      exact ⟨r1, ⟨k2, p11, p12, r2, by rw [r1']; exact nb_bool _, trivial⟩, fun q h1 h2 => r3 q h1 (by omega), r4, m⟩
    rw [if_pos (bo_f c2), if_pos (bo_f c2), if_pos (bo_f c2), if_neg c2]
    by_cases c3 : wdB B n b (tw_byt.getD 13 []) = true
    · obtain ⟨r1, r2, r3, r4, r5⟩ := lit 2 (by decide)
      have m := mk 2 (by decide)
      rw [if_neg (bo_t c3), if_neg (bo_t c3), if_neg (bo_t c3), if_pos c3]
      have r1' : f_X7_readLight N 2 τ = _ := r1
      rw [r1', bo_01]
      exact ⟨rfl, ⟨k2, p11, p12, p13, r2, trivial⟩, fun q h1 h2 => r3 q h1 (by omega), r4, m⟩
    rw [if_pos (bo_f c3), if_pos (bo_f c3), if_pos (bo_f c3), if_neg c3]
    exact ⟨rfl, ⟨k2, p11, p12, p13, trivial⟩, fun _ _ _ => rfl, h, fun q => absurd (show false = true from q) (by decide)⟩
