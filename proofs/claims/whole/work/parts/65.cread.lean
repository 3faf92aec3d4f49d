/-! ===== what a text tells, read by the class ===== -/
def wL (w : Nat) : List Int32 := tw_byt.getD w []
def okN (B : Nat → Nat) (n b hi : Nat) : Bool := decide (tA B n (nx B n b) = 2) && decide (vA B n (nx B n b) < hi)
theorem okN_v {B : Nat → Nat} {n b hi : Nat} (h : okN B n b hi = true) : tA B n (nx B n b) = 2 ∧ vA B n (nx B n b) < hi := by
  unfold okN at h
  rw [Bool.and_eq_true, decide_eq_true_eq, decide_eq_true_eq] at h
  exact h
theorem vF_le (B : Nat → Nat) : ∀ d k a, a ≤ 10000 → vF B d k a ≤ 10000
  | 0, _, _, h => h
  | d + 1, k, a, _ => vF_le B d (k + 1) _ (vS_le _ _)
theorem vA_le (B : Nat → Nat) (n b : Nat) : vA B n b ≤ 10000 := vF_le B _ _ _ (by decide)
theorem curC_sr {B : Nat → Nat} {n b k : Nat} {τ : tw_T} {r : Nat → Int32} (h : curC B n b τ) (h1 : k ≠ 27) (h2 : k ≠ 28) : curC B n b (tw_sr τ k r) :=
  ⟨fun j hj => by rw [sr_ne (Ne.symm h2)]; exact h.1 j hj, by rw [sr_ne (Ne.symm h1)]; exact h.2⟩
theorem c_step {N n b : Nat} {B : Nat → Nat} {τ : tw_T} (hn : n ≤ 120) (hB : ∀ j, B j < 256) (hN : 130 ≤ N) (hbn : b ≤ n) (h : curC B n b τ) : curC B n (nx B n b) (g_X7_nextToken N τ) ∧ (∀ q, q ≠ 27 → g_X7_nextToken N τ q = τ q) ∧ p_X7_nextToken N τ := by
  obtain ⟨hb, k1, k2, k3, k4, k5⟩ := h
  obtain ⟨⟨r, a1, a2⟩, a3⟩ := c_next (N := N) hn hB hN (eA_le hbn).2 hb k1 k4
  rw [a1]
  exact ⟨⟨fun j hj => by rw [sr_ne (by decide)]; exact hb j hj, by rw [sr_self]; exact a2⟩, fun q hq => sr_ne hq, a3⟩
theorem c_num2 {n b : Nat} {B : Nat → Nat} {τ : tw_T} (h : curC B n b τ) : (τ 27 2 = (2 : Int32) ↔ tA B n b = 2) ∧ (tA B n b = 2 → τ 27 5 = nI (vA B n b)) := by
  obtain ⟨hb, k1, k2, k3, k4, k5⟩ := h
  have htc := tC_le B n b
  refine ⟨?_, k5⟩
  rw [k2, ← tC_eq (show 2 ≤ 2 by decide)]
  exact nI_eq (b := 2) (by omega) (by decide)
theorem may_L {a v : Nat} (ha : a < 3) (hv : v ≤ 10000) (τ : tw_T) : f_X2_mayBecome (nI a) (nI v) τ = 0 ↔ ¬ v < bd (3 + a) := by
  have hw : ∀ m : Nat, m < 5000 → (f_X8_within (nI v) 0 (nI m) τ = 0 ↔ ¬ v < m + 1) := fun m hm => by
    by_cases c : v ≤ m
    · have := w_in (τ := τ) c (show m < 2 ^ 31 by omega)
      exact ⟨fun q => absurd q this, fun q => absurd (show v < m + 1 by omega) q⟩
    · refine ⟨fun _ => by omega, fun _ => ?_⟩
      unfold f_X8_within
      have h1 : ¬ nI v < 0 := nI_pos (by omega)
      have h2 : nI m < nI v := nI_lt (by omega) (by omega)
      rw [if_neg h1, if_pos h2]
  rcases (show a = 0 ∨ a = 1 ∨ a = 2 by omega) with rfl | rfl | rfl
  · exact hw 4095 (by decide)
  · exact hw 23 (by decide)
  · exact hw 1 (by decide)
theorem may_S {j v : Nat} (hj : j = 1 ∨ j = 3) (hv : v ≤ 10000) (τ : tw_T) : f_X6_mayBecome (nI j) (nI v) τ = 0 ↔ ¬ v < bdS j := by
  have hw : ∀ m : Nat, m < 5000 → (f_X8_within (nI v) 0 (nI m) τ = 0 ↔ ¬ v < m + 1) := fun m hm => by
    by_cases c : v ≤ m
    · have := w_in (τ := τ) c (show m < 2 ^ 31 by omega)
      exact ⟨fun q => absurd q this, fun q => absurd (show v < m + 1 by omega) q⟩
    · refine ⟨fun _ => by omega, fun _ => ?_⟩
      unfold f_X8_within
      have h1 : ¬ nI v < 0 := nI_pos (by omega)
      have h2 : nI m < nI v := nI_lt (by omega) (by omega)
      rw [if_neg h1, if_pos h2]
  rcases hj with rfl | rfl
  · exact hw 23 (by decide)
  · exact hw 5 (by decide)
theorem becL {a : Nat} (ha : a < 3) (v : Int32) (τ : tw_T) : g_X2_become 32 (nI a) v τ = tw_sr τ 32 (upd (τ 32) a v) := by
  rcases (show a = 0 ∨ a = 1 ∨ a = 2 by omega) with rfl | rfl | rfl <;> rfl
theorem c_light {N n b a : Nat} {B M : Nat → Nat} {τ : tw_T} (hn : n ≤ 120) (hB : ∀ j, B j < 256) (hN : 130 ≤ N) (hbn : b ≤ n) (h : curC B n b τ) (ha : a < 3) (hl : litR (τ 32) M) :
    f_X7_readLight N (nI a) τ = boolI (okN B n b (bd (3 + a))) ∧ p_X7_readLight N (nI a) τ ∧ (∀ q, q ≠ 27 → q ≠ 32 → g_X7_readLight N (nI a) τ q = τ q) ∧ curC B n (if okN B n b (bd (3 + a)) then nx B n (nx B n b) else nx B n b) (g_X7_readLight N (nI a) τ) ∧ (okN B n b (bd (3 + a)) = true → litR (g_X7_readLight N (nI a) τ 32) (mU M (3 + a) (vA B n (nx B n b)))) := by
  obtain ⟨s1, s2, s3⟩ := c_step hn hB hN hbn h
  have hnx := nx_le (B := B) hbn
  unfold f_X7_readLight g_X7_readLight p_X7_readLight
  generalize g_X7_nextToken N τ = A at *
  obtain ⟨t1, t2⟩ := c_num2 s1
  simp only [t1]
  by_cases c1 : tA B n (nx B n b) = 2
  · have hv := vA_le B n (nx B n b)
    rw [if_pos c1, if_pos c1, if_pos c1, t2 c1]
    simp only [may_L ha hv, becL ha]
    by_cases c2 : vA B n (nx B n b) < bd (3 + a)
    · have hok : okN B n b (bd (3 + a)) = true := by unfold okN; rw [decide_eq_true c1, decide_eq_true c2]; rfl
      have c2' : ¬ ¬ vA B n (nx B n b) < bd (3 + a) := fun q => q c2
      rw [if_neg c2', if_neg c2', if_neg c2', hok, if_pos rfl]
      obtain ⟨u1, u2, u3⟩ := c_step (τ := tw_sr A 32 (upd (A 32) a (nI (vA B n (nx B n b))))) hn hB hN hnx.2 (curC_sr s1 (by decide) (by decide))
      refine ⟨rfl, ⟨s3, u3, trivial⟩, fun q h1 h2 => by rw [u2 q h1, sr_ne h2, s2 q h1], u1, fun _ => ?_⟩
      rw [u2 32 (by decide), sr_self, s2 32 (by decide)]
      obtain ⟨l0, l1, l2, l3, l4⟩ := hl
      unfold litR
      rcases (show a = 0 ∨ a = 1 ∨ a = 2 by omega) with rfl | rfl | rfl
      · rw [mU_self, mU_ne (by decide), mU_ne (by decide), mU_ne (by decide), mU_ne (by decide), pk_us, pk_un (by decide), pk_un (by decide), pk_un (by decide), pk_un (by decide)]
        exact ⟨rfl, l1, l2, l3, l4⟩
      · rw [mU_ne (by decide), mU_self, mU_ne (by decide), mU_ne (by decide), mU_ne (by decide), pk_un (by decide), pk_us, pk_un (by decide), pk_un (by decide), pk_un (by decide)]
        exact ⟨l0, rfl, l2, l3, l4⟩
      · rw [mU_ne (by decide), mU_ne (by decide), mU_self, mU_ne (by decide), mU_ne (by decide), pk_un (by decide), pk_un (by decide), pk_us, pk_un (by decide), pk_un (by decide)]
        exact ⟨l0, l1, rfl, l3, l4⟩
    · have hok : okN B n b (bd (3 + a)) = false := by unfold okN; rw [decide_eq_true c1, decide_eq_false c2]; rfl
      rw [if_pos c2, if_pos c2, if_pos c2, hok, if_neg (by decide)]
      exact ⟨rfl, ⟨s3, trivial⟩, fun q h1 _ => s2 q h1, s1, fun q => absurd q (by decide)⟩
  · have hok : okN B n b (bd (3 + a)) = false := by unfold okN; rw [decide_eq_false c1]; rfl
    rw [if_neg c1, if_neg c1, if_neg c1, hok, if_neg (by decide)]
    exact ⟨rfl, ⟨s3, trivial⟩, fun q h1 _ => s2 q h1, s1, fun q => absurd q (by decide)⟩
theorem shR_mU {r : Nat → Int32} {s : Nat → Nat} {j v : Nat} (h : shR r s) : shR (upd r j (nI v)) (mU s j v) := by
  intro f hf
  by_cases c : f = j
  · subst c; rw [pk_us, mU_self]
  · rw [pk_un c, mU_ne c]; exact h f hf
theorem c_part {N n b j k : Nat} {B s : Nat → Nat} {τ : tw_T} (hn : n ≤ 120) (hB : ∀ j, B j < 256) (hN : 130 ≤ N) (hbn : b ≤ n) (h : curC B n b τ) (hj : j = 1 ∨ j = 3) (hk : 35 ≤ k ∧ k < 43) (hs : shR (τ k) s) :
    f_X7_readPart N k (nI j) τ = boolI (okN B n b (bdS j)) ∧ p_X7_readPart N k (nI j) τ ∧ (∀ q, q ≠ 27 → q ≠ k → g_X7_readPart N k (nI j) τ q = τ q) ∧ curC B n (if okN B n b (bdS j) then nx B n (nx B n b) else nx B n b) (g_X7_readPart N k (nI j) τ) ∧ (okN B n b (bdS j) = true → shR (g_X7_readPart N k (nI j) τ k) (mU s j (vA B n (nx B n b)))) := by
  obtain ⟨s1, s2, s3⟩ := c_step hn hB hN hbn h
  have hnx := nx_le (B := B) hbn
  have hj7 : j < 7 := by omega
  unfold f_X7_readPart g_X7_readPart p_X7_readPart
  generalize g_X7_nextToken N τ = A at *
  obtain ⟨t1, t2⟩ := c_num2 s1
  simp only [t1]
  by_cases c1 : tA B n (nx B n b) = 2
  · have hv := vA_le B n (nx B n b)
    rw [if_pos c1, if_pos c1, if_pos c1, t2 c1]
    simp only [may_S hj hv, become_at hj7]
    by_cases c2 : vA B n (nx B n b) < bdS j
    · have hok : okN B n b (bdS j) = true := by unfold okN; rw [decide_eq_true c1, decide_eq_true c2]; rfl
      have c2' : ¬ ¬ vA B n (nx B n b) < bdS j := fun q => q c2
      rw [if_neg c2', if_neg c2', if_neg c2', hok, if_pos rfl]
      obtain ⟨u1, u2, u3⟩ := c_step (τ := tw_sr A k (upd (A k) j (nI (vA B n (nx B n b))))) hn hB hN hnx.2 (curC_sr s1 (by omega) (by omega))
      refine ⟨rfl, ⟨s3, u3, trivial⟩, fun q h1 h2 => by rw [u2 q h1, sr_ne h2, s2 q h1], u1, fun _ => ?_⟩
      rw [u2 k (by omega), sr_self, s2 k (by omega)]
      exact shR_mU hs
    · have hok : okN B n b (bdS j) = false := by unfold okN; rw [decide_eq_true c1, decide_eq_false c2]; rfl
      rw [if_pos c2, if_pos c2, if_pos c2, hok, if_neg (by decide)]
      exact ⟨rfl, ⟨s3, trivial⟩, fun q h1 _ => s2 q h1, s1, fun q => absurd q (by decide)⟩
  · have hok : okN B n b (bdS j) = false := by unfold okN; rw [decide_eq_false c1]; rfl
    rw [if_neg c1, if_neg c1, if_neg c1, hok, if_neg (by decide)]
    exact ⟨rfl, ⟨s3, trivial⟩, fun q h1 _ => s2 q h1, s1, fun q => absurd q (by decide)⟩
/-! what a ship's words say -/
def rPt (B : Nat → Nat) (n b : Nat) (s : Nat → Nat) : Bool × Nat × (Nat → Nat) := if wdB B n b (wL 10) then (true, nx B n b, mU s 4 1) else (true, b, s)
def rSp (B : Nat → Nat) (n b : Nat) (s : Nat → Nat) : Bool × Nat × (Nat → Nat) := if wdB B n b (wL 9) then (if okN B n b (bdS 3) then rPt B n (nx B n (nx B n b)) (mU s 3 (vA B n (nx B n b))) else (false, nx B n b, s)) else rPt B n b s
def rBk (B : Nat → Nat) (n b : Nat) (s : Nat → Nat) : Bool × Nat × (Nat → Nat) := if wdB B n b (wL 8) then rSp B n (nx B n b) (mU s 2 0) else rSp B n b s
def rAt (B : Nat → Nat) (n b : Nat) (s : Nat → Nat) : Bool × Nat × (Nat → Nat) := if wdB B n b (wL 7) then (if okN B n b (bdS 1) then rBk B n (nx B n (nx B n b)) (mU s 1 (vA B n (nx B n b))) else (false, nx B n b, s)) else rBk B n b s
def fPt (N : Nat) (τ : tw_T) : Int32 := if (f_X7_isWord N 10 τ) = (0 : Int32) then 1 else 1
def gPt (N k : Nat) (τ : tw_T) : tw_T := if (f_X7_isWord N 10 τ) = (0 : Int32) then τ else g_X7_nextToken N (tw_sr τ k (upd (τ k) 4 1))
def pPt (N k : Nat) (τ : tw_T) : Prop := p_X7_isWord N 10 τ ∧ (if (f_X7_isWord N 10 τ) = (0 : Int32) then True else (p_X7_nextToken N (tw_sr τ k (upd (τ k) 4 1)) ∧ True))
def fSp (N k : Nat) (τ : tw_T) : Int32 := if (f_X7_isWord N 9 τ) = (0 : Int32) then fPt N τ else (if (f_X7_readPart N k 3 τ) = (0 : Int32) then 0 else fPt N (g_X7_readPart N k 3 τ))
def gSp (N k : Nat) (τ : tw_T) : tw_T := if (f_X7_isWord N 9 τ) = (0 : Int32) then gPt N k τ else (if (f_X7_readPart N k 3 τ) = (0 : Int32) then g_X7_readPart N k 3 τ else gPt N k (g_X7_readPart N k 3 τ))
def pSp (N k : Nat) (τ : tw_T) : Prop := p_X7_isWord N 9 τ ∧ (if (f_X7_isWord N 9 τ) = (0 : Int32) then pPt N k τ else (p_X7_readPart N k 3 τ ∧ (if (f_X7_readPart N k 3 τ) = (0 : Int32) then True else pPt N k (g_X7_readPart N k 3 τ))))
def fBk (N k : Nat) (τ : tw_T) : Int32 := if (f_X7_isWord N 8 τ) = (0 : Int32) then fSp N k τ else fSp N k (g_X7_nextToken N (tw_sr τ k (upd (τ k) 2 0)))
def gBk (N k : Nat) (τ : tw_T) : tw_T := if (f_X7_isWord N 8 τ) = (0 : Int32) then gSp N k τ else gSp N k (g_X7_nextToken N (tw_sr τ k (upd (τ k) 2 0)))
def pBk (N k : Nat) (τ : tw_T) : Prop := p_X7_isWord N 8 τ ∧ (if (f_X7_isWord N 8 τ) = (0 : Int32) then pSp N k τ else (p_X7_nextToken N (tw_sr τ k (upd (τ k) 2 0)) ∧ pSp N k (g_X7_nextToken N (tw_sr τ k (upd (τ k) 2 0)))))
def fAt (N k : Nat) (τ : tw_T) : Int32 := if (f_X7_isWord N 7 τ) = (0 : Int32) then fBk N k τ else (if (f_X7_readPart N k 1 τ) = (0 : Int32) then 0 else fBk N k (g_X7_readPart N k 1 τ))
def gAt (N k : Nat) (τ : tw_T) : tw_T := if (f_X7_isWord N 7 τ) = (0 : Int32) then gBk N k τ else (if (f_X7_readPart N k 1 τ) = (0 : Int32) then g_X7_readPart N k 1 τ else gBk N k (g_X7_readPart N k 1 τ))
def pAt (N k : Nat) (τ : tw_T) : Prop := p_X7_isWord N 7 τ ∧ (if (f_X7_isWord N 7 τ) = (0 : Int32) then pBk N k τ else (p_X7_readPart N k 1 τ ∧ (if (f_X7_readPart N k 1 τ) = (0 : Int32) then True else pBk N k (g_X7_readPart N k 1 τ))))
theorem rs_f (N : Nat) (x2 : Int32) (τ : tw_T) : f_X7_readShip N x2 τ = if (f_X1_isFull 33 τ) = (0 : Int32) then fAt N (33 + 2 + (τ 33 1).toNatClampNeg) (g_X7_nextToken N (g_X1_launch 33 x2 11 τ)) else 0 := rfl
theorem rs_g (N : Nat) (x2 : Int32) (τ : tw_T) : g_X7_readShip N x2 τ = if (f_X1_isFull 33 τ) = (0 : Int32) then gAt N (33 + 2 + (τ 33 1).toNatClampNeg) (g_X7_nextToken N (g_X1_launch 33 x2 11 τ)) else τ := rfl
theorem rs_p (N : Nat) (x2 : Int32) (τ : tw_T) : p_X7_readShip N x2 τ = if (f_X1_isFull 33 τ) = (0 : Int32) then (vp_in (τ 33 1) 8 ∧ (p_X1_launch 33 x2 11 τ ∧ (p_X7_nextToken N (g_X1_launch 33 x2 11 τ) ∧ pAt N (33 + 2 + (τ 33 1).toNatClampNeg) (g_X7_nextToken N (g_X1_launch 33 x2 11 τ))))) else True := rfl
/-- what a stage leaves -/
def stg (B : Nat → Nat) (n k : Nat) (R : Bool × Nat × (Nat → Nat)) (f : Int32) (p : Prop) (τ τ' : tw_T) : Prop := f = boolI R.1 ∧ p ∧ curC B n R.2.1 τ' ∧ R.2.1 ≤ n ∧ (R.1 = true → shR (τ' k) R.2.2) ∧ ∀ q, q ≠ 27 → q ≠ k → τ' q = τ q
theorem bo_t {x : Bool} (h : x = true) : ¬ boolI x = 0 := by rw [h]; decide
theorem bo_f {x : Bool} (h : ¬ x = true) : boolI x = 0 := by rw [boolI_0]; simpa using h
theorem c_Pt {N n k : Nat} {B : Nat → Nat} (hn : n ≤ 120) (hB : ∀ j, B j < 256) (hN : 130 ≤ N) (hk : 35 ≤ k ∧ k < 43) {b : Nat} {s : Nat → Nat} {τ : tw_T} (hbn : b ≤ n) (h : curC B n b τ) (hs : shR (τ k) s) : stg B n k (rPt B n b s) (fPt N τ) (pPt N k τ) τ (gPt N k τ) := by
  obtain ⟨w1, w2⟩ := c_word (N := N) (w := 10) (by decide) hn (by omega) hbn h
  unfold fPt gPt pPt rPt stg wL
  rw [w1]
  by_cases c : wdB B n b (tw_byt.getD 10 []) = true
  · obtain ⟨u1, u2, u3⟩ := c_step (τ := tw_sr τ k (upd (τ k) 4 1)) hn hB hN hbn (curC_sr h (by omega) (by omega))
    rw [if_neg (bo_t c), if_neg (bo_t c), if_neg (bo_t c), if_pos c]
    refine ⟨rfl, ⟨w2, u3, trivial⟩, u1, (nx_le hbn).2, fun _ => ?_, fun q h1 h2 => by rw [u2 q h1, sr_ne h2]⟩
    rw [u2 k (by omega), sr_self]
    exact shR_mU (v := 1) hs
  · rw [if_pos (bo_f c), if_pos (bo_f c), if_pos (bo_f c), if_neg c]
    exact ⟨rfl, ⟨w2, trivial⟩, h, hbn, fun _ => hs, fun _ _ _ => rfl⟩
theorem stg_tr {n k : Nat} {B : Nat → Nat} {R : Bool × Nat × (Nat → Nat)} {f : Int32} {p : Prop} {τ τ1 τ' : tw_T} (h : stg B n k R f p τ1 τ') (hq : ∀ q, q ≠ 27 → q ≠ k → τ1 q = τ q) : stg B n k R f p τ τ' := by
  obtain ⟨a1, a2, a3, a4, a5, a6⟩ := h
  exact ⟨a1, a2, a3, a4, a5, fun q h1 h2 => by rw [a6 q h1 h2, hq q h1 h2]⟩
theorem stg_p {n k : Nat} {B : Nat → Nat} {R : Bool × Nat × (Nat → Nat)} {f : Int32} {p p' : Prop} {τ τ' : tw_T} (h : stg B n k R f p τ τ') (hq : p → p') : stg B n k R f p' τ τ' := by
  obtain ⟨a1, a2, a3⟩ := h
  exact ⟨a1, hq a2, a3⟩
theorem c_Sp {N n k : Nat} {B : Nat → Nat} (hn : n ≤ 120) (hB : ∀ j, B j < 256) (hN : 130 ≤ N) (hk : 35 ≤ k ∧ k < 43) {b : Nat} {s : Nat → Nat} {τ : tw_T} (hbn : b ≤ n) (h : curC B n b τ) (hs : shR (τ k) s) : stg B n k (rSp B n b s) (fSp N k τ) (pSp N k τ) τ (gSp N k τ) := by
  obtain ⟨w1, w2⟩ := c_word (N := N) (w := 9) (by decide) hn (by omega) hbn h
  obtain ⟨r1, r2, r3, r4, r5⟩ := c_part (N := N) (j := 3) hn hB hN hbn h (Or.inr rfl) hk hs
  have r1' : f_X7_readPart N k 3 τ = _ := r1
  have hnx := (nx_le (B := B) hbn).2
  unfold fSp gSp pSp rSp wL
  rw [w1, r1']
  by_cases c : wdB B n b (tw_byt.getD 9 []) = true
  · rw [if_neg (bo_t c), if_neg (bo_t c), if_neg (bo_t c), if_pos c]
    by_cases c2 : okN B n b (bdS 3) = true
    · rw [if_neg (bo_t c2), if_neg (bo_t c2), if_neg (bo_t c2), if_pos c2]
      rw [if_pos c2] at r4
      exact stg_p (stg_tr (c_Pt hn hB hN hk (nx_le hnx).2 r4 (r5 c2)) r3) (fun q => ⟨w2, r2, q⟩)
    · rw [if_pos (bo_f c2), if_pos (bo_f c2), if_pos (bo_f c2), if_neg c2]
      rw [if_neg c2] at r4
      exact ⟨rfl, ⟨w2, r2, trivial⟩, r4, hnx, fun q => absurd (show false = true from q) (by decide), r3⟩
  · rw [if_pos (bo_f c), if_pos (bo_f c), if_pos (bo_f c), if_neg c]
    exact stg_p (c_Pt hn hB hN hk hbn h hs) (fun q => ⟨w2, q⟩)
theorem c_Bk {N n k : Nat} {B : Nat → Nat} (hn : n ≤ 120) (hB : ∀ j, B j < 256) (hN : 130 ≤ N) (hk : 35 ≤ k ∧ k < 43) {b : Nat} {s : Nat → Nat} {τ : tw_T} (hbn : b ≤ n) (h : curC B n b τ) (hs : shR (τ k) s) : stg B n k (rBk B n b s) (fBk N k τ) (pBk N k τ) τ (gBk N k τ) := by
  obtain ⟨w1, w2⟩ := c_word (N := N) (w := 8) (by decide) hn (by omega) hbn h
  have hnx := (nx_le (B := B) hbn).2
  unfold fBk gBk pBk rBk wL
  rw [w1]
  by_cases c : wdB B n b (tw_byt.getD 8 []) = true
  · obtain ⟨u1, u2, u3⟩ := c_step (τ := tw_sr τ k (upd (τ k) 2 0)) hn hB hN hbn (curC_sr h (by omega) (by omega))
    rw [if_neg (bo_t c), if_neg (bo_t c), if_neg (bo_t c), if_pos c]
    exact stg_p (stg_tr (c_Sp hn hB hN hk hnx u1 (by rw [u2 k (by omega), sr_self]; exact shR_mU (v := 0) hs)) (fun q h1 h2 => by rw [u2 q h1, sr_ne h2])) (fun q => ⟨w2, u3, q⟩)
  · rw [if_pos (bo_f c), if_pos (bo_f c), if_pos (bo_f c), if_neg c]
    exact stg_p (c_Sp hn hB hN hk hbn h hs) (fun q => ⟨w2, q⟩)
theorem c_At {N n k : Nat} {B : Nat → Nat} (hn : n ≤ 120) (hB : ∀ j, B j < 256) (hN : 130 ≤ N) (hk : 35 ≤ k ∧ k < 43) {b : Nat} {s : Nat → Nat} {τ : tw_T} (hbn : b ≤ n) (h : curC B n b τ) (hs : shR (τ k) s) : stg B n k (rAt B n b s) (fAt N k τ) (pAt N k τ) τ (gAt N k τ) := by
  obtain ⟨w1, w2⟩ := c_word (N := N) (w := 7) (by decide) hn (by omega) hbn h
  obtain ⟨r1, r2, r3, r4, r5⟩ := c_part (N := N) (j := 1) hn hB hN hbn h (Or.inl rfl) hk hs
  have r1' : f_X7_readPart N k 1 τ = _ := r1
  have hnx := (nx_le (B := B) hbn).2
  unfold fAt gAt pAt rAt wL
  rw [w1, r1']
  by_cases c : wdB B n b (tw_byt.getD 7 []) = true
  · rw [if_neg (bo_t c), if_neg (bo_t c), if_neg (bo_t c), if_pos c]
    by_cases c2 : okN B n b (bdS 1) = true
    · rw [if_neg (bo_t c2), if_neg (bo_t c2), if_neg (bo_t c2), if_pos c2]
      rw [if_pos c2] at r4
      exact stg_p (stg_tr (c_Bk hn hB hN hk (nx_le hnx).2 r4 (r5 c2)) r3) (fun q => ⟨w2, r2, q⟩)
    · rw [if_pos (bo_f c2), if_pos (bo_f c2), if_pos (bo_f c2), if_neg c2]
      rw [if_neg c2] at r4
      exact ⟨rfl, ⟨w2, r2, trivial⟩, r4, hnx, fun q => absurd (show false = true from q) (by decide), r3⟩
  · rw [if_pos (bo_f c), if_pos (bo_f c), if_pos (bo_f c), if_neg c]
    exact stg_p (c_Bk hn hB hN hk hbn h hs) (fun q => ⟨w2, q⟩)
