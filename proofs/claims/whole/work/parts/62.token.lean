/-! ===== tokens of a text: what both sides read ===== -/
def typ (x : Nat) : Nat := if 97 ≤ x ∧ x ≤ 122 then 1 else if 48 ≤ x ∧ x ≤ 57 then 2 else 3
def sk (p : Nat → Bool) : Nat → Nat → Nat
  | 0, k => k
  | d + 1, k => if p k then sk p d (k + 1) else k
theorem sk_le (p : Nat → Bool) : ∀ d k, k ≤ sk p d k ∧ sk p d k ≤ k + d
  | 0, k => ⟨Nat.le_refl _, Nat.le_refl _⟩
  | d + 1, k => by
    have ih := sk_le p d (k + 1)
    unfold sk
    split <;> omega
theorem sk_all (p : Nat → Bool) : ∀ d k j, k ≤ j → j < sk p d k → p j = true
  | 0, k, j, a, b => absurd b (by unfold sk; omega)
  | d + 1, k, j, a, b => by
    unfold sk at b
    by_cases c : p k = true
    · rw [if_pos c] at b
      by_cases e : j = k
      · rw [e]; exact c
      · exact sk_all p d (k + 1) j (by omega) b
    · rw [if_neg c] at b
      omega
theorem sk_stop (p : Nat → Bool) : ∀ d k, sk p d k < k + d → p (sk p d k) = false
  | 0, k, h => absurd h (by unfold sk; omega)
  | d + 1, k, h => by
    unfold sk at h ⊢
    by_cases c : p k = true
    · rw [if_pos c] at h ⊢
      exact sk_stop p d (k + 1) (by omega)
    · rw [if_neg c]
      simpa using c
theorem sk_yes {p : Nat → Bool} {d k : Nat} (h : p k = true) : sk p (d + 1) k = sk p d (k + 1) := if_pos h
theorem sk_no {p : Nat → Bool} {d k : Nat} (h : p k = false) : sk p (d + 1) k = k := if_neg (by rw [h]; decide)
def tA (B : Nat → Nat) (n b : Nat) : Nat := if n ≤ b then 0 else typ (B b)
def eA (B : Nat → Nat) (n b : Nat) : Nat := if n ≤ b then b else if typ (B b) = 3 then b + 1 else sk (fun j => decide (typ (B j) = typ (B b))) (n - b) b
def vS (a x : Nat) : Nat := if a * 10 + x - 48 < 10000 then a * 10 + x - 48 else 10000
def vF (B : Nat → Nat) : Nat → Nat → Nat → Nat
  | 0, _, a => a
  | d + 1, k, a => vF B d (k + 1) (vS a (B k))
def tC (B : Nat → Nat) (n b : Nat) : Nat := if tA B n b = 3 ∧ B b ≠ 59 then 4 else tA B n b
def vA (B : Nat → Nat) (n b : Nat) : Nat := vF B (eA B n b - b) b 0
def bT (B : Nat → Nat) (n e : Nat) : Nat := sk (fun j => decide (B j = 32)) (n - e) e
theorem vS_le (a x : Nat) : vS a x ≤ 10000 := by unfold vS; split <;> omega
theorem eA_le {B : Nat → Nat} {n b : Nat} (h : b ≤ n) : b ≤ eA B n b ∧ eA B n b ≤ n := by
  have := sk_le (fun j => decide (typ (B j) = typ (B b))) (n - b) b
  unfold eA
  split
  · omega
  · split <;> omega
theorem eA_gt {B : Nat → Nat} {n b : Nat} (h : b < n) : b < eA B n b := by
  unfold eA
  rw [if_neg (by omega)]
  split
  · omega
  · obtain ⟨d, hd⟩ : ∃ d, n - b = d + 1 := ⟨n - b - 1, by omega⟩
    rw [hd, sk_yes (decide_eq_true rfl)]
    have := (sk_le (fun j => decide (typ (B j) = typ (B b))) d (b + 1)).1
    omega
theorem upd_eq {f : Nat → Int32} {i : Nat} {x : Int32} (h : f i = x) : upd f i x = f := by rw [← h]; exact upd_same f i
def tyC (x : Nat) : Nat := if typ x = 3 ∧ x ≠ 59 then 4 else typ x
theorem ty_c : ∀ x, x < 256 → (if nI x < (97 : Int32) then (if nI x < (48 : Int32) then (if nI x = (59 : Int32) then (3 : Int32) else 4) else (if (57 : Int32) < nI x then (if nI x = (59 : Int32) then 3 else 4) else 2)) else (if (122 : Int32) < nI x then (if nI x < (48 : Int32) then (if nI x = (59 : Int32) then 3 else 4) else (if (57 : Int32) < nI x then (if nI x = (59 : Int32) then 3 else 4) else 2)) else 1)) = nI (tyC x) := by decide +kernel
theorem c_type {x : Nat} (h : x < 256) (τ : tw_T) : f_X7_typeOf (nI x) τ = nI (tyC x) := ty_c x h
theorem typ_le (x : Nat) : typ x = 1 ∨ typ x = 2 ∨ typ x = 3 := by
  unfold typ
  split
  · exact Or.inl rfl
  · split
    · exact Or.inr (Or.inl rfl)
    · exact Or.inr (Or.inr rfl)
theorem tyC_eq {x t : Nat} (ht : t = 1 ∨ t = 2) : tyC x = t ↔ typ x = t := by
  unfold tyC
  rcases ht with rfl | rfl <;> split <;> omega
theorem typ_2 {x : Nat} (h : typ x = 2) : 48 ≤ x ∧ x ≤ 57 := by
  unfold typ at h
  split at h
  · omega
  · split at h <;> omega
/-! the class -/
def tbR (n : Nat) (B : Nat → Nat) (τ : tw_T) : Prop := ∀ j, j < n → τ 28 j = nI (B j)
theorem vS_c {a x : Nat} (ha : a ≤ 10000) (hx : 48 ≤ x) (hx2 : x < 256) : (if (10000 : Int32) < nI a * 10 + nI x - 48 then (10000 : Int32) else nI a * 10 + nI x - 48) = nI (vS a x) := by
  have e1 : nI a * 10 = nI (a * 10) := pk_mul a 10
  have e2 : (48 : Int32) = nI 48 := rfl
  have e3 : (10000 : Int32) = nI 10000 := rfl
  rw [e1, nI_add, e2, pk_sub (by omega), e3]
  simp only [nI_ltI (show 10000 < 2 ^ 31 by decide) (show a * 10 + x - 48 < 2 ^ 31 by omega), q_ite]
  refine congrArg nI ?_
  unfold vS
  by_cases c : 10000 < a * 10 + x - 48
  · rw [if_pos c, if_neg (by omega)]
  · rw [if_neg c]
    by_cases d : a * 10 + x - 48 < 10000
    · rw [if_pos d]
    · rw [if_neg d]; omega
theorem l_num {N n e : Nat} {B : Nat → Nat} {τ : tw_T} (hn : n ≤ 120) (hB : ∀ j, B j < 256) (hb : tbR n B τ) (he : e ≤ n) (h4 : τ 27 4 = nI e) : ∀ d k fuel a, k + d = e → d < fuel → a ≤ 10000 → (∀ j, k ≤ j → j < e → typ (B j) = 2) → lf_X7_numberRead_7 N fuel (nI a) (nI k) τ = nI (vF B d k a) ∧ lo_X7_numberRead_7 N fuel (nI a) (nI k) τ := by
  intro d
  induction d with
  | zero =>
    intro k fuel a hk hf ha hd
    obtain ⟨u, rfl⟩ : ∃ u, fuel = u + 1 := ⟨fuel - 1, by omega⟩
    have hle : nI e ≤ nI k := nI_le (by omega) (by omega)
    rw [lf_X7_numberRead_7, lo_X7_numberRead_7, h4, if_pos hle, if_pos hle]
    exact ⟨rfl, trivial⟩
  | succ d ih =>
    intro k fuel a hk hf ha hd
    obtain ⟨u, rfl⟩ : ∃ u, fuel = u + 1 := ⟨fuel - 1, by omega⟩
    have hgt : ¬ nI e ≤ nI k := nI_ge (by omega) (by omega)
    have h48 := typ_2 (hd k (Nat.le_refl _) (by omega))
    rw [lf_X7_numberRead_7, lo_X7_numberRead_7, h4, if_neg hgt, if_neg hgt, nI_clamp (by omega), hb k (by omega), vS_c ha h48.1 (hB k), nI_1]
    obtain ⟨a1, a2⟩ := ih (k + 1) u (vS a (B k)) (by omega) (by omega) (vS_le _ _) (fun j p q => hd j (by omega) q)
    exact ⟨a1, vp_in_nI (by omega) (by decide), a2⟩
def fn27 (N : Nat) (τ : tw_T) : tw_T := if (τ 27 2) = (2 : Int32) then (tw_sr τ 27 (upd (τ 27) 5 (f_X7_numberRead N τ))) else τ
def pn27 (N : Nat) (τ : tw_T) : Prop := if (τ 27 2) = (2 : Int32) then (p_X7_numberRead N τ ∧ True) else True
theorem l_grow {N n t : Nat} {B : Nat → Nat} (hn : n ≤ 120) (hB : ∀ j, B j < 256) (ht : t = 1 ∨ t = 2) : ∀ d k fuel (τ : tw_T), k + d = n → d < fuel → tbR n B τ → τ 27 1 = nI n → τ 27 2 = nI t → τ 27 4 = nI k →
    lg_X7_nextToken_119 N fuel 1 τ = fn27 N (tw_sr τ 27 (upd (τ 27) 4 (nI (sk (fun j => decide (typ (B j) = t)) d k)))) ∧ (pn27 N (tw_sr τ 27 (upd (τ 27) 4 (nI (sk (fun j => decide (typ (B j) = t)) d k)))) → lo_X7_nextToken_119 N fuel 1 τ) := by
  have h10 : ¬ (1 : Int32) = 0 := by decide
  intro d
  induction d with
  | zero =>
    intro k fuel τ hk hf hb h1 h2 h4
    obtain ⟨u, rfl⟩ : ∃ u, fuel = u + 1 := ⟨fuel - 1, by omega⟩
    have e : k = n := by omega
    subst e
    have hle : nI k ≤ nI k := nI_le (Nat.le_refl _) (by omega)
    have e4 : upd (τ 27) 4 (nI (sk (fun j => decide (typ (B j) = t)) 0 k)) = τ 27 := upd_eq h4
    rw [lg_X7_nextToken_119, lo_X7_nextToken_119, if_neg h10, if_neg h10, h1, h4, if_pos hle, if_pos hle, e4, sr_id]
    exact ⟨rfl, id⟩
  | succ d ih =>
    intro k fuel τ hk hf hb h1 h2 h4
    obtain ⟨u, rfl⟩ : ∃ u, fuel = u + 1 := ⟨fuel - 1, by omega⟩
    have hgt : ¬ nI n ≤ nI k := nI_ge (by omega) (by omega)
    have hv : vp_in (nI k) 120 := vp_in_nI (by omega) (by decide)
    have hty : tyC (B k) < 5 := by unfold tyC; have := typ_le (B k); split <;> omega
    rw [lg_X7_nextToken_119, lo_X7_nextToken_119, if_neg h10, if_neg h10, h1, h4, if_neg hgt, if_neg hgt, nI_clamp (by omega), hb k (by omega), c_type (hB k), h2, nI_1]
    simp only [nI_eq (show tyC (B k) < 2 ^ 31 by omega) (show t < 2 ^ 31 by omega), tyC_eq ht]
    by_cases c : typ (B k) = t
    · rw [if_pos c, if_pos c, sk_yes (decide_eq_true c)]
      obtain ⟨a1, a2⟩ := ih (k + 1) u (tw_sr τ 27 (upd (τ 27) 4 (nI (k + 1)))) (by omega) (by omega) (fun j hj => by rw [sr_ne (by decide)]; exact hb j hj) (by rw [sr_self, pk_un (by decide)]; exact h1) (by rw [sr_self, pk_un (by decide)]; exact h2) (by rw [sr_self, pk_us])
      rw [sr_sr, sr_self, upd_twice] at a1 a2
      exact ⟨a1, fun h => ⟨hv, a2 h⟩⟩
    · rw [if_neg c, if_neg c, sk_no (decide_eq_false c)]
      have e4 : upd (τ 27) 4 (nI k) = τ 27 := upd_eq h4
      have ef : fn27 N τ = if nI t = (2 : Int32) then (tw_sr τ 27 (upd (τ 27) 5 (f_X7_numberRead N τ))) else τ := by unfold fn27; rw [h2]
      have ep : pn27 N τ = if nI t = (2 : Int32) then (p_X7_numberRead N τ ∧ True) else True := by unfold pn27; rw [h2]
      rw [e4, sr_id, ef, ep]
      exact ⟨rfl, fun h => ⟨hv, h⟩⟩
/-- the row of the token that was read at b -/
def tkR (B : Nat → Nat) (n b : Nat) (r : Nat → Int32) : Prop := r 1 = nI n ∧ r 2 = nI (tC B n b) ∧ r 3 = nI b ∧ r 4 = nI (eA B n b) ∧ (tA B n b = 2 → r 5 = nI (vA B n b))
def nA (τ : tw_T) : tw_T := tw_sr τ 27 (upd (τ 27) 4 (τ 27 3))
def nT (τ : tw_T) : Int32 := f_X7_typeOf ((nA τ) 28 ((nA τ) 27 3).toNatClampNeg) (nA τ)
def nB (τ : tw_T) : tw_T := tw_sr (nA τ) 27 (upd ((nA τ) 27) 2 (nT τ))
def nC (τ : tw_T) : tw_T := tw_sr (nB τ) 27 (upd ((nB τ) 27) 4 (((nB τ) 27 4) + 1))
def nR (N : Nat) (τ : tw_T) : tw_T := if ((nA τ) 27 3) < ((nA τ) 27 1) then (if ((nC τ) 27 2) = (1 : Int32) then (lg_X7_nextToken_119 N N 1 (nC τ)) else (if ((nC τ) 27 2) = (2 : Int32) then (lg_X7_nextToken_119 N N 1 (nC τ)) else (lg_X7_nextToken_119 N N 0 (nC τ)))) else (tw_sr (nA τ) 27 (upd ((nA τ) 27) 2 0))
def qR (N : Nat) (τ : tw_T) : Prop := if ((nA τ) 27 3) < ((nA τ) 27 1) then (vp_in ((nA τ) 27 3) 120 ∧ (if ((nC τ) 27 2) = (1 : Int32) then (lo_X7_nextToken_119 N N 1 (nC τ)) else (if ((nC τ) 27 2) = (2 : Int32) then (lo_X7_nextToken_119 N N 1 (nC τ)) else (lo_X7_nextToken_119 N N 0 (nC τ))))) else True
theorem n8_g (N n : Nat) (τ : tw_T) : lg_X7_nextToken_8 N (n + 1) τ = if (τ 27 1) ≤ (τ 27 3) then nR N τ else (if (τ 28 (τ 27 3).toNatClampNeg) = (32 : Int32) then (lg_X7_nextToken_8 N n (tw_sr τ 27 (upd (τ 27) 3 ((τ 27 3) + 1)))) else nR N τ) := rfl
theorem n8_p (N n : Nat) (τ : tw_T) : lo_X7_nextToken_8 N (n + 1) τ = if (τ 27 1) ≤ (τ 27 3) then qR N τ else (vp_in (τ 27 3) 120 ∧ (if (τ 28 (τ 27 3).toNatClampNeg) = (32 : Int32) then (lo_X7_nextToken_8 N n (tw_sr τ 27 (upd (τ 27) 3 ((τ 27 3) + 1)))) else qR N τ)) := rfl
theorem c_nR {N n b : Nat} {B : Nat → Nat} {τ : tw_T} (hn : n ≤ 120) (hB : ∀ j, B j < 256) (hN : 130 ≤ N) (hb : tbR n B τ) (hbn : b ≤ n) (h1 : τ 27 1 = nI n) (h3 : τ 27 3 = nI b) : (∃ r, nR N τ = tw_sr τ 27 r ∧ tkR B n b r) ∧ qR N τ := by
  have a27 : (nA τ) 27 = upd (τ 27) 4 (nI b) := by unfold nA; rw [sr_self, h3]
  have a28 : (nA τ) 28 = τ 28 := sr_ne (by decide)
  have a3 : (nA τ) 27 3 = nI b := by rw [a27, pk_un (by decide)]; exact h3
  have a1 : (nA τ) 27 1 = nI n := by rw [a27, pk_un (by decide)]; exact h1
  have a4 : (nA τ) 27 4 = nI b := by rw [a27, pk_us]
  unfold nR qR
  rw [a3, a1]
  simp only [nI_ltI (show b < 2 ^ 31 by omega) (show n < 2 ^ 31 by omega)]
  by_cases c : b < n
  · have hty : tyC (B b) < 5 := by unfold tyC; have := typ_le (B b); split <;> omega
    have eT : nT τ = nI (tyC (B b)) := by unfold nT; rw [a3, nI_clamp (by omega), a28, hb b c, c_type (hB b)]
    have b27 : (nB τ) 27 = upd ((nA τ) 27) 2 (nI (tyC (B b))) := by unfold nB; rw [sr_self, eT]
    have c27 : (nC τ) 27 = upd ((nB τ) 27) 4 (nI (b + 1)) := by
      unfold nC
      rw [sr_self, b27, pk_un (show 4 ≠ 2 by decide), a4, nI_1]
    have c2 : (nC τ) 27 2 = nI (tyC (B b)) := by rw [c27, pk_un (by decide), b27, pk_us]
    have c1 : (nC τ) 27 1 = nI n := by rw [c27, pk_un (by decide), b27, pk_un (by decide)]; exact a1
    have c3 : (nC τ) 27 3 = nI b := by rw [c27, pk_un (by decide), b27, pk_un (by decide)]; exact a3
    have c4 : (nC τ) 27 4 = nI (b + 1) := by rw [c27, pk_us]
    have hsr : ∀ r, tw_sr (nC τ) 27 r = tw_sr τ 27 r := fun r => by unfold nC nB nA; rw [sr_sr, sr_sr, sr_sr]
    have cb : tbR n B (nC τ) := fun j hj => by
      have : (nC τ) 28 = τ 28 := by unfold nC nB; rw [sr_ne (by decide), sr_ne (by decide)]; exact a28
      rw [this]; exact hb j hj
    have hbl : vp_in (nI b) 120 := vp_in_nI (by omega) (by decide)
    have htA : tA B n b = typ (B b) := if_neg (by omega)
    have htC : tC B n b = tyC (B b) := by unfold tC tyC; rw [htA]
    rw [if_pos c, if_pos c, c2]
    have hcs := typ_le (B b)
    -- a run
    have run : ∀ t, (t = 1 ∨ t = 2) → typ (B b) = t → (∃ r, lg_X7_nextToken_119 N N 1 (nC τ) = tw_sr τ 27 r ∧ tkR B n b r) ∧ lo_X7_nextToken_119 N N 1 (nC τ) := by
      intro t ht e
      have htc : tyC (B b) = t := (tyC_eq ht).mpr e
      obtain ⟨g1, g2⟩ := l_grow (N := N) hn hB ht (n - (b + 1)) (b + 1) N (nC τ) (by omega) (by omega) cb c1 (by rw [c2, htc]) c4
      have heA : eA B n b = sk (fun j => decide (typ (B j) = t)) (n - (b + 1)) (b + 1) := by
        unfold eA
        rw [if_neg (by omega), e, if_neg (by omega)]
        obtain ⟨d, hd⟩ : ∃ d, n - b = d + 1 := ⟨n - b - 1, by omega⟩
        rw [hd, sk_yes (decide_eq_true e), show n - (b + 1) = d by omega]
      rw [← heA] at g1 g2
      rw [hsr] at g1 g2
      have r2 : (tw_sr τ 27 (upd ((nC τ) 27) 4 (nI (eA B n b)))) 27 2 = nI t := by rw [sr_self, pk_un (by decide), c2, htc]
      have hle := eA_le (B := B) hbn
      rcases ht with rfl | rfl
      · have hne : ¬ nI 1 = (2 : Int32) := by decide
        have e1 : fn27 N (tw_sr τ 27 (upd ((nC τ) 27) 4 (nI (eA B n b)))) = tw_sr τ 27 (upd ((nC τ) 27) 4 (nI (eA B n b))) := by
          unfold fn27
          rw [r2, if_neg hne]
        have e2 : pn27 N (tw_sr τ 27 (upd ((nC τ) 27) 4 (nI (eA B n b)))) := by
          unfold pn27
          rw [r2, if_neg hne]
          trivial
        refine ⟨⟨_, g1.trans e1, ?_, ?_, ?_, ?_, fun h => absurd (htA.symm.trans h) (by omega)⟩, g2 e2⟩
        · rw [pk_un (by decide)]; exact c1
        · rw [pk_un (by decide), c2, htC]
        · rw [pk_un (by decide)]; exact c3
        · rw [pk_us]
      · have he2 : nI 2 = (2 : Int32) := rfl
        obtain ⟨v1, v2⟩ := l_num (N := N) (τ := tw_sr τ 27 (upd ((nC τ) 27) 4 (nI (eA B n b)))) hn hB (fun j hj => by rw [sr_ne (by decide)]; exact hb j hj) hle.2 (by rw [sr_self, pk_us]) (eA B n b - b) b N 0 (by omega) (by omega) (by decide) (fun j p q => by
          by_cases ej : j = b
          · rw [ej]; exact e
          · have := sk_all (fun j => decide (typ (B j) = 2)) (n - (b + 1)) (b + 1) j (by omega) (by rw [← heA]; exact q)
            exact of_decide_eq_true this)
        have r3 : (tw_sr τ 27 (upd ((nC τ) 27) 4 (nI (eA B n b)))) 27 3 = nI b := by rw [sr_self, pk_un (by decide), c3]
        have v1' : f_X7_numberRead N (tw_sr τ 27 (upd ((nC τ) 27) 4 (nI (eA B n b)))) = nI (vA B n b) := by
          unfold f_X7_numberRead
          rw [r3]
          exact v1
        have v2' : p_X7_numberRead N (tw_sr τ 27 (upd ((nC τ) 27) 4 (nI (eA B n b)))) := by
          unfold p_X7_numberRead
          rw [r3]
          exact v2
        have e1 : fn27 N (tw_sr τ 27 (upd ((nC τ) 27) 4 (nI (eA B n b)))) = tw_sr τ 27 (upd (upd ((nC τ) 27) 4 (nI (eA B n b))) 5 (nI (vA B n b))) := by
          unfold fn27
          rw [r2, if_pos he2, sr_sr, v1', sr_self]
        have e2 : pn27 N (tw_sr τ 27 (upd ((nC τ) 27) 4 (nI (eA B n b)))) := by
          unfold pn27
          rw [r2, if_pos he2]
          exact ⟨v2', trivial⟩
        refine ⟨⟨_, g1.trans e1, ?_, ?_, ?_, ?_, fun h => ?_⟩, g2 e2⟩
        · rw [pk_un (by decide), pk_un (by decide)]; exact c1
        · rw [pk_un (by decide), pk_un (by decide), c2, htC]
        · rw [pk_un (by decide), pk_un (by decide)]; exact c3
        · rw [pk_un (by decide), pk_us]
        · rw [pk_us]
    have i1 : nI (tyC (B b)) = (1 : Int32) ↔ tyC (B b) = 1 := nI_eq (b := 1) (by omega) (by decide)
    have i2 : nI (tyC (B b)) = (2 : Int32) ↔ tyC (B b) = 2 := nI_eq (b := 2) (by omega) (by decide)
    rw [tyC_eq (Or.inl rfl)] at i1
    rw [tyC_eq (Or.inr rfl)] at i2
    simp only [i1, i2]
    by_cases d1 : typ (B b) = 1
    · rw [if_pos d1, if_pos d1]
      obtain ⟨x1, x2⟩ := run 1 (Or.inl rfl) d1
      exact ⟨x1, hbl, x2⟩
    · rw [if_neg d1, if_neg d1]
      by_cases d2 : typ (B b) = 2
      · rw [if_pos d2, if_pos d2]
        obtain ⟨x1, x2⟩ := run 2 (Or.inr rfl) d2
        exact ⟨x1, hbl, x2⟩
      · rw [if_neg d2, if_neg d2]
        obtain ⟨P, rfl⟩ : ∃ P, N = P + 1 := ⟨N - 1, by omega⟩
        have h00 : (0 : Int32) = 0 := rfl
        have hne : ¬ nI (tyC (B b)) = (2 : Int32) := fun q => d2 (i2.mp q)
        rw [lg_X7_nextToken_119, lo_X7_nextToken_119, if_pos h00, if_pos h00, c2, if_neg hne, if_neg hne]
        have hid := hsr ((nC τ) 27)
        rw [sr_id] at hid
        have heA : eA B n b = b + 1 := by
          unfold eA
          rw [if_neg (by omega), if_pos (by omega)]
        refine ⟨⟨_, hid, c1, by rw [c2, htC], c3, by rw [c4, heA], fun h => absurd (htA.symm.trans h) d2⟩, hbl, trivial⟩
  · have e : b = n := by omega
    rw [if_neg c, if_neg c]
    have htA : tA B n b = 0 := if_pos (by omega)
    refine ⟨⟨upd ((nA τ) 27) 2 0, by unfold nA; rw [sr_sr], ?_, ?_, ?_, ?_, fun h => absurd (htA.symm.trans h) (by decide)⟩, trivial⟩
    · rw [pk_un (by decide)]; exact a1
    · rw [pk_us]
      unfold tC
      rw [htA]
      rfl
    · rw [pk_un (by decide)]; exact a3
    · rw [pk_un (by decide), a4]
      unfold eA
      rw [if_pos (by omega)]
theorem l_blank {N n : Nat} {B : Nat → Nat} (hn : n ≤ 120) (hB : ∀ j, B j < 256) (hN : 130 ≤ N) : ∀ d k fuel (τ : tw_T), k + d = n → d < fuel → tbR n B τ → τ 27 1 = nI n → τ 27 3 = nI k →
    (∃ r, lg_X7_nextToken_8 N fuel τ = tw_sr τ 27 r ∧ tkR B n (sk (fun j => decide (B j = 32)) d k) r) ∧ lo_X7_nextToken_8 N fuel τ := by
  intro d
  induction d with
  | zero =>
    intro k fuel τ hk hf hb h1 h3
    obtain ⟨u, rfl⟩ : ∃ u, fuel = u + 1 := ⟨fuel - 1, by omega⟩
    have hle : nI n ≤ nI k := nI_le (by omega) (by omega)
    rw [n8_g, n8_p, h1, h3, if_pos hle, if_pos hle]
    exact c_nR hn hB hN hb (show k ≤ n by omega) h1 h3
  | succ d ih =>
    intro k fuel τ hk hf hb h1 h3
    obtain ⟨u, rfl⟩ : ∃ u, fuel = u + 1 := ⟨fuel - 1, by omega⟩
    have hgt : ¬ nI n ≤ nI k := nI_ge (by omega) (by omega)
    have hv : vp_in (nI k) 120 := vp_in_nI (by omega) (by decide)
    have hBk := hB k
    have e32 : nI (B k) = (32 : Int32) ↔ B k = 32 := nI_eq (b := 32) (by omega) (by decide)
    rw [n8_g, n8_p, h1, h3, if_neg hgt, if_neg hgt, nI_clamp (by omega), hb k (by omega), nI_1]
    simp only [e32]
    by_cases c : B k = 32
    · rw [if_pos c, if_pos c, sk_yes (decide_eq_true c)]
      obtain ⟨⟨r, a1, a2⟩, a3⟩ := ih (k + 1) u (tw_sr τ 27 (upd (τ 27) 3 (nI (k + 1)))) (by omega) (by omega) (fun j hj => by rw [sr_ne (by decide)]; exact hb j hj) (by rw [sr_self, pk_un (by decide)]; exact h1) (by rw [sr_self, pk_us])
      rw [sr_sr] at a1
      exact ⟨⟨r, a1, a2⟩, hv, a3⟩
    · rw [if_neg c, if_neg c, sk_no (decide_eq_false c)]
      obtain ⟨a1, a2⟩ := c_nR hn hB hN hb (show k ≤ n by omega) h1 h3
      exact ⟨a1, hv, a2⟩
theorem c_next {N n e : Nat} {B : Nat → Nat} {τ : tw_T} (hn : n ≤ 120) (hB : ∀ j, B j < 256) (hN : 130 ≤ N) (he : e ≤ n) (hb : tbR n B τ) (h1 : τ 27 1 = nI n) (h4 : τ 27 4 = nI e) :
    (∃ r, g_X7_nextToken N τ = tw_sr τ 27 r ∧ tkR B n (bT B n e) r) ∧ p_X7_nextToken N τ := by
  unfold g_X7_nextToken p_X7_nextToken
  rw [h4]
  obtain ⟨⟨r, a1, a2⟩, a3⟩ := l_blank hn hB hN (n - e) e N (tw_sr τ 27 (upd (τ 27) 3 (nI e))) (by omega) (by omega) (fun j hj => by rw [sr_ne (by decide)]; exact hb j hj) (by rw [sr_self, pk_un (by decide)]; exact h1) (by rw [sr_self, pk_us])
  rw [sr_sr] at a1
  exact ⟨⟨r, a1, a2⟩, a3⟩
