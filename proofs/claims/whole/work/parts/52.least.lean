/-! ===== the least: kindFor, start, speedFor, lagFor ===== -/
/-- the best of 0 .. k, and how good it is -/
def bs (G : Nat → Nat) : Nat → Nat × Nat
  | 0 => (0, G 0)
  | k + 1 => if G (k + 1) < (bs G k).2 then (k + 1, G (k + 1)) else bs G k
theorem bs_le (G : Nat → Nat) {B : Nat} : ∀ k, (∀ v, v ≤ k → G v < B) → (bs G k).1 ≤ k ∧ (bs G k).2 < B
  | 0, h => ⟨Nat.le_refl 0, h 0 (Nat.le_refl 0)⟩
  | k + 1, h => by
    have ih := bs_le G k (fun v hv => h v (by omega))
    unfold bs
    split
    · exact ⟨Nat.le_refl _, h _ (Nat.le_refl _)⟩
    · exact ⟨by omega, ih.2⟩
theorem bs_cong {G G' : Nat → Nat} : ∀ k, (∀ v, v ≤ k → G v = G' v) → bs G k = bs G' k
  | 0, h => by unfold bs; rw [h 0 (Nat.le_refl 0)]
  | k + 1, h => by
    unfold bs
    rw [bs_cong k (fun v hv => h v (by omega)), h (k + 1) (Nat.le_refl _)]
theorem upd_twice (f : Nat → Int32) (i : Nat) (x y : Int32) : upd (upd f i x) i y = upd f i y := by
  funext j
  by_cases h : j = i
  · subst h; rw [pk_us, pk_us]
  · rw [pk_un h, pk_un h, pk_un h]
theorem upd_same (f : Nat → Int32) (i : Nat) : upd f i (f i) = f := by
  funext j
  by_cases h : j = i
  · subst h; rw [pk_us]
  · rw [pk_un h]
/-- while it is thought: the put-back row Y, the row with v at place p -/
def thk (τ : tw_T) (Y : Nat → Int32) (p : Nat) (v : Int32) : tw_T := tw_sr (tw_sr τ 193 Y) 191 (upd (τ 191) p v)
theorem thk_set (τ : tw_T) (Y : Nat → Int32) (p : Nat) (v w : Int32) : tw_sr (thk τ Y p v) 191 (upd ((thk τ Y p v) 191) p w) = thk τ Y p w := by
  unfold thk
  rw [sr_self, sr_sr, upd_twice]
theorem thk_191 (τ : tw_T) (Y : Nat → Int32) (p : Nat) (v : Int32) : (thk τ Y p v) 191 = upd (τ 191) p v := sr_self _ _ _
theorem thk_193 (τ : tw_T) (Y Y' : Nat → Int32) (p : Nat) (v : Int32) : tw_sr (thk τ Y p v) 193 Y' = thk τ Y' p v := by
  unfold thk
  rw [sr_comm (a := 191) (b := 193) (by decide), sr_sr]
theorem thk_end (τ : tw_T) (Y : Nat → Int32) (p : Nat) : thk τ Y p (τ 191 p) = tw_sr τ 193 Y := by
  unfold thk
  rw [upd_same]
  have e : (tw_sr τ 193 Y) 191 = τ 191 := sr_ne (by decide)
  have e2 := sr_id (tw_sr τ 193 Y) 191
  rw [e] at e2
  exact e2
theorem thk_start (τ : tw_T) (p : Nat) : τ = thk τ (τ 193) p (τ 191 p) := by rw [thk_end, sr_id]

theorem ml_lst {N p V n i B : Nat} {G : Nat → Nat} {τ : tw_T} (hp : p < 73) (hi : i < 8) (hV : V < 2 ^ 31) (hB : B < 2 ^ 31) (hG : ∀ v, v < V → G v < B)
    (hE : ∀ v, v < V → ∀ Y, f_X9_behind N (f_X9_shipAt (nI i) 5 (thk τ Y p (nI v))) (nI n) (thk τ Y p (nI v)) = nI (G v) ∧ (∃ Y', g_X9_behind N (f_X9_shipAt (nI i) 5 (thk τ Y p (nI v))) (nI n) (thk τ Y p (nI v)) = thk τ Y' p (nI v)) ∧ p_X9_behind N (f_X9_shipAt (nI i) 5 (thk τ Y p (nI v))) (nI n) (thk τ Y p (nI v))) :
    ∀ d k fuel (x5 w : Int32) (Y : Nat → Int32), k + 1 + d = V → d < fuel →
    lf_X9_leastFor_17 N fuel (nI p) (nI V) (nI i) (nI n) x5 (nI (bs G k).1) (nI (bs G k).2) (nI (k + 1)) (thk τ Y p w) = nI (bs G (V - 1)).1 ∧ (∃ Y', lg_X9_leastFor_17 N fuel (nI p) (nI V) (nI i) (nI n) x5 (nI (bs G k).1) (nI (bs G k).2) (nI (k + 1)) (thk τ Y p w) = thk τ Y' p x5) ∧ lo_X9_leastFor_17 N fuel (nI p) (nI V) (nI i) (nI n) x5 (nI (bs G k).1) (nI (bs G k).2) (nI (k + 1)) (thk τ Y p w) := by
  have ep : (nI p).toNatClampNeg = p := nI_clamp (by omega)
  have vp : vp_in (nI p) 73 := vp_in_nI hp (by decide)
  have h0 : (0 : Int32) ≤ (nI i) := nI_pos' (by omega)
  intro d
  induction d with
  | zero =>
    intro k fuel x5 w Y hk hf
    obtain ⟨u, rfl⟩ : ∃ u, fuel = u + 1 := ⟨fuel - 1, by omega⟩
    have hle : nI V ≤ nI (k + 1) := nI_le (by omega) (by omega)
    rw [lf_X9_leastFor_17, lg_X9_leastFor_17, lo_X9_leastFor_17, if_pos hle, if_pos hle, if_pos hle, ep, thk_set]
    refine ⟨?_, ⟨Y, rfl⟩, vp, trivial⟩
    rw [show V - 1 = k by omega]
  | succ d ih =>
    intro k fuel x5 w Y hk hf
    obtain ⟨u, rfl⟩ : ∃ u, fuel = u + 1 := ⟨fuel - 1, by omega⟩
    have hgt : ¬ nI V ≤ nI (k + 1) := nI_ge (by omega) (by omega)
    obtain ⟨b1, b2⟩ := bs_le G (B := B) k (fun v hv => hG v (by omega))
    have hneg : ¬ nI (bs G k).2 < 0 := nI_pos (by omega)
    obtain ⟨e1, ⟨Y', e2⟩, e3⟩ := hE (k + 1) (by omega) Y
    have gB := hG (k + 1) (by omega)
    rw [lf_X9_leastFor_17, lg_X9_leastFor_17, lo_X9_leastFor_17, if_neg hgt, if_neg hgt, if_neg hgt, ep, thk_set, if_pos h0, if_pos h0, if_pos h0, if_neg hneg, if_neg hneg, if_neg hneg, e1, e2, nI_1]
    by_cases c : G (k + 1) < (bs G k).2
    · have hle : ¬ nI (bs G k).2 ≤ nI (G (k + 1)) := nI_ge c (by omega)
      have eb : bs G (k + 1) = (k + 1, G (k + 1)) := if_pos c
      obtain ⟨a1, a2, a3⟩ := ih (k + 1) u x5 (nI (k + 1)) Y' (by omega) (by omega)
      rw [eb] at a1 a2 a3
      rw [if_neg hle, if_neg hle, if_neg hle]
      exact ⟨a1, a2, vp, e3, a3⟩
    · have hle : nI (bs G k).2 ≤ nI (G (k + 1)) := nI_le (by omega) (by omega)
      have eb : bs G (k + 1) = bs G k := if_neg c
      obtain ⟨a1, a2, a3⟩ := ih (k + 1) u x5 (nI (k + 1)) Y' (by omega) (by omega)
      rw [eb] at a1 a2 a3
      rw [if_pos hle, if_pos hle, if_pos hle]
      exact ⟨a1, a2, vp, e3, a3⟩
theorem ml_lst0 {N p V n i B : Nat} {G : Nat → Nat} {τ : tw_T} (hp : p < 73) (hi : i < 8) (hV : V < 2 ^ 31) (hV0 : 0 < V) (hN : V < N) (hB : B < 2 ^ 31) (hG : ∀ v, v < V → G v < B)
    (hE : ∀ v, v < V → ∀ Y, f_X9_behind N (f_X9_shipAt (nI i) 5 (thk τ Y p (nI v))) (nI n) (thk τ Y p (nI v)) = nI (G v) ∧ (∃ Y', g_X9_behind N (f_X9_shipAt (nI i) 5 (thk τ Y p (nI v))) (nI n) (thk τ Y p (nI v)) = thk τ Y' p (nI v)) ∧ p_X9_behind N (f_X9_shipAt (nI i) 5 (thk τ Y p (nI v))) (nI n) (thk τ Y p (nI v))) :
    f_X9_leastFor N (nI p) (nI V) (nI i) (nI n) τ = nI (bs G (V - 1)).1 ∧ (∃ Y', g_X9_leastFor N (nI p) (nI V) (nI i) (nI n) τ = tw_sr τ 193 Y') ∧ p_X9_leastFor N (nI p) (nI V) (nI i) (nI n) τ := by
  have ep : (nI p).toNatClampNeg = p := nI_clamp (by omega)
  have vp : vp_in (nI p) 73 := vp_in_nI hp (by decide)
  have h0 : (0 : Int32) ≤ (nI i) := nI_pos' (by omega)
  obtain ⟨M, rfl⟩ : ∃ M, N = M + 1 := ⟨N - 1, by omega⟩
  have hgt : ¬ nI V ≤ nI 0 := nI_ge (by omega) (by omega)
  have hneg : (-1 : Int32) < 0 := by decide
  obtain ⟨e1, ⟨Y', e2⟩, e3⟩ := hE 0 hV0 (τ 193)
  obtain ⟨a1, ⟨Y2, a2⟩, a3⟩ := ml_lst (N := M + 1) (n := n) hp hi hV hB hG hE (V - 1) 0 M (τ 191 p) (nI 0) Y' (by omega) (by omega)
  have st : f_X9_leastFor (M + 1) (nI p) (nI V) (nI i) (nI n) τ = lf_X9_leastFor_17 (M + 1) (M + 1) (nI p) (nI V) (nI i) (nI n) (τ 191 p) 0 (-1) (nI 0) (thk τ (τ 193) p (τ 191 p)) ∧ g_X9_leastFor (M + 1) (nI p) (nI V) (nI i) (nI n) τ = lg_X9_leastFor_17 (M + 1) (M + 1) (nI p) (nI V) (nI i) (nI n) (τ 191 p) 0 (-1) (nI 0) (thk τ (τ 193) p (τ 191 p)) ∧ (lo_X9_leastFor_17 (M + 1) (M + 1) (nI p) (nI V) (nI i) (nI n) (τ 191 p) 0 (-1) (nI 0) (thk τ (τ 193) p (τ 191 p)) → p_X9_leastFor (M + 1) (nI p) (nI V) (nI i) (nI n) τ) := by
    unfold f_X9_leastFor g_X9_leastFor p_X9_leastFor
    rw [ep, ← thk_start]
    exact ⟨rfl, rfl, fun h => ⟨vp, h⟩⟩
  obtain ⟨s1, s2, s3⟩ := st
  rw [s1, s2]
  rw [lo_X9_leastFor_17] at s3
  rw [lf_X9_leastFor_17, lg_X9_leastFor_17]
  simp only [hgt, h0, hneg, ep, thk_set, e1, e2, if_true, if_false] at s3 ⊢
  refine ⟨a1, ⟨Y2, ?_⟩, s3 ⟨vp, e3, a3⟩⟩
  rw [← thk_end τ Y2 p]
  exact a2

theorem ml_lsa {N p V n B : Nat} {G : Nat → Nat} {τ : tw_T} (hp : p < 73) (hV : V < 2 ^ 31) (hB : B < 2 ^ 31) (hG : ∀ v, v < V → G v < B)
    (hE : ∀ v, v < V → ∀ Y, f_X9_strandedBehind N (nI n) (thk τ Y p (nI v)) = nI (G v) ∧ (∃ Y', g_X9_strandedBehind N (nI n) (thk τ Y p (nI v)) = thk τ Y' p (nI v)) ∧ p_X9_strandedBehind N (nI n) (thk τ Y p (nI v))) :
    ∀ d k fuel (x5 w : Int32) (Y : Nat → Int32), k + 1 + d = V → d < fuel →
    lf_X9_leastFor_17 N fuel (nI p) (nI V) (-1) (nI n) x5 (nI (bs G k).1) (nI (bs G k).2) (nI (k + 1)) (thk τ Y p w) = nI (bs G (V - 1)).1 ∧ (∃ Y', lg_X9_leastFor_17 N fuel (nI p) (nI V) (-1) (nI n) x5 (nI (bs G k).1) (nI (bs G k).2) (nI (k + 1)) (thk τ Y p w) = thk τ Y' p x5) ∧ lo_X9_leastFor_17 N fuel (nI p) (nI V) (-1) (nI n) x5 (nI (bs G k).1) (nI (bs G k).2) (nI (k + 1)) (thk τ Y p w) := by
  have ep : (nI p).toNatClampNeg = p := nI_clamp (by omega)
  have vp : vp_in (nI p) 73 := vp_in_nI hp (by decide)
  have h0 : ¬ (0 : Int32) ≤ (-1) := by decide
  intro d
  induction d with
  | zero =>
    intro k fuel x5 w Y hk hf
    obtain ⟨u, rfl⟩ : ∃ u, fuel = u + 1 := ⟨fuel - 1, by omega⟩
    have hle : nI V ≤ nI (k + 1) := nI_le (by omega) (by omega)
    rw [lf_X9_leastFor_17, lg_X9_leastFor_17, lo_X9_leastFor_17, if_pos hle, if_pos hle, if_pos hle, ep, thk_set]
    refine ⟨?_, ⟨Y, rfl⟩, vp, trivial⟩
    rw [show V - 1 = k by omega]
  | succ d ih =>
    intro k fuel x5 w Y hk hf
    obtain ⟨u, rfl⟩ : ∃ u, fuel = u + 1 := ⟨fuel - 1, by omega⟩
    have hgt : ¬ nI V ≤ nI (k + 1) := nI_ge (by omega) (by omega)
    obtain ⟨b1, b2⟩ := bs_le G (B := B) k (fun v hv => hG v (by omega))
    have hneg : ¬ nI (bs G k).2 < 0 := nI_pos (by omega)
    obtain ⟨e1, ⟨Y', e2⟩, e3⟩ := hE (k + 1) (by omega) Y
    have gB := hG (k + 1) (by omega)
    rw [lf_X9_leastFor_17, lg_X9_leastFor_17, lo_X9_leastFor_17, if_neg hgt, if_neg hgt, if_neg hgt, ep, thk_set, if_neg h0, if_neg h0, if_neg h0, if_neg hneg, if_neg hneg, if_neg hneg, e1, e2, nI_1]
    by_cases c : G (k + 1) < (bs G k).2
    · have hle : ¬ nI (bs G k).2 ≤ nI (G (k + 1)) := nI_ge c (by omega)
      have eb : bs G (k + 1) = (k + 1, G (k + 1)) := if_pos c
      obtain ⟨a1, a2, a3⟩ := ih (k + 1) u x5 (nI (k + 1)) Y' (by omega) (by omega)
      rw [eb] at a1 a2 a3
      rw [if_neg hle, if_neg hle, if_neg hle]
      exact ⟨a1, a2, vp, e3, a3⟩
    · have hle : nI (bs G k).2 ≤ nI (G (k + 1)) := nI_le (by omega) (by omega)
      have eb : bs G (k + 1) = bs G k := if_neg c
      obtain ⟨a1, a2, a3⟩ := ih (k + 1) u x5 (nI (k + 1)) Y' (by omega) (by omega)
      rw [eb] at a1 a2 a3
      rw [if_pos hle, if_pos hle, if_pos hle]
      exact ⟨a1, a2, vp, e3, a3⟩
theorem ml_lsa0 {N p V n B : Nat} {G : Nat → Nat} {τ : tw_T} (hp : p < 73) (hV : V < 2 ^ 31) (hV0 : 0 < V) (hN : V < N) (hB : B < 2 ^ 31) (hG : ∀ v, v < V → G v < B)
    (hE : ∀ v, v < V → ∀ Y, f_X9_strandedBehind N (nI n) (thk τ Y p (nI v)) = nI (G v) ∧ (∃ Y', g_X9_strandedBehind N (nI n) (thk τ Y p (nI v)) = thk τ Y' p (nI v)) ∧ p_X9_strandedBehind N (nI n) (thk τ Y p (nI v))) :
    f_X9_leastFor N (nI p) (nI V) (-1) (nI n) τ = nI (bs G (V - 1)).1 ∧ (∃ Y', g_X9_leastFor N (nI p) (nI V) (-1) (nI n) τ = tw_sr τ 193 Y') ∧ p_X9_leastFor N (nI p) (nI V) (-1) (nI n) τ := by
  have ep : (nI p).toNatClampNeg = p := nI_clamp (by omega)
  have vp : vp_in (nI p) 73 := vp_in_nI hp (by decide)
  have h0 : ¬ (0 : Int32) ≤ (-1) := by decide
  obtain ⟨M, rfl⟩ : ∃ M, N = M + 1 := ⟨N - 1, by omega⟩
  have hgt : ¬ nI V ≤ nI 0 := nI_ge (by omega) (by omega)
  have hneg : (-1 : Int32) < 0 := by decide
  obtain ⟨e1, ⟨Y', e2⟩, e3⟩ := hE 0 hV0 (τ 193)
  obtain ⟨a1, ⟨Y2, a2⟩, a3⟩ := ml_lsa (N := M + 1) (n := n) hp hV hB hG hE (V - 1) 0 M (τ 191 p) (nI 0) Y' (by omega) (by omega)
  have st : f_X9_leastFor (M + 1) (nI p) (nI V) (-1) (nI n) τ = lf_X9_leastFor_17 (M + 1) (M + 1) (nI p) (nI V) (-1) (nI n) (τ 191 p) 0 (-1) (nI 0) (thk τ (τ 193) p (τ 191 p)) ∧ g_X9_leastFor (M + 1) (nI p) (nI V) (-1) (nI n) τ = lg_X9_leastFor_17 (M + 1) (M + 1) (nI p) (nI V) (-1) (nI n) (τ 191 p) 0 (-1) (nI 0) (thk τ (τ 193) p (τ 191 p)) ∧ (lo_X9_leastFor_17 (M + 1) (M + 1) (nI p) (nI V) (-1) (nI n) (τ 191 p) 0 (-1) (nI 0) (thk τ (τ 193) p (τ 191 p)) → p_X9_leastFor (M + 1) (nI p) (nI V) (-1) (nI n) τ) := by
    unfold f_X9_leastFor g_X9_leastFor p_X9_leastFor
    rw [ep, ← thk_start]
    exact ⟨rfl, rfl, fun h => ⟨vp, h⟩⟩
  obtain ⟨s1, s2, s3⟩ := st
  rw [s1, s2]
  rw [lo_X9_leastFor_17] at s3
  rw [lf_X9_leastFor_17, lg_X9_leastFor_17]
  simp only [hgt, h0, hneg, ep, thk_set, e1, e2, if_true, if_false] at s3 ⊢
  refine ⟨a1, ⟨Y2, ?_⟩, s3 ⟨vp, e3, a3⟩⟩
  rw [← thk_end τ Y2 p]
  exact a2

/-- what a ship would have stranded, with one of its fields changed -/
def strW (M : Nat → Nat) (i what v n : Nat) : Nat := sailK M (mU (shipN M i) what v) n 5
theorem okS_mU {s : Nat → Nat} {j v : Nat} (h : okS s) (hj : j < 7) (hv : v < bdS j) : okS (mU s j v) := by
  rw [okS_iff] at h ⊢
  intro f hf
  by_cases c : f = j
  · subst c; rw [mU_self]; exact hv
  · rw [mU_ne c]; exact h f hf
theorem sailK_cong {M M' : Nat → Nat} {s : Nat → Nat} (h0 : M' 0 = M 0) (h3 : M' 3 = M 3) (h4 : M' 4 = M 4) (h5 : M' 5 = M 5) (h6 : M' 6 = M 6) (b6 : M 6 < 16777216) (b4 : M 4 < 24) : ∀ n, sailK M' s n = sailK M s n
  | 0 => rfl
  | n + 1 => by
    show sailN (shN (tk M' n)) (M' 0 + n) (sailK M' s n) = sailN (shN (tk M n)) (M 0 + n) (sailK M s n)
    rw [sailK_cong h0 h3 h4 h5 h6 b6 b4 n, shN_tk M' n (by rw [h6]; exact b6) (by rw [h4]; exact b4), shN_tk M n b6 b4]
    unfold secA
    rw [h0, h3, h4, h5, h6]
theorem okT_mU {T j v : Nat} {M : Nat → Nat} (h : okT T M) (h3 : 3 ≤ j) (h7 : j < 73) (hj : j < 7 ∨ 17 ≤ j) (hv : v < bd j) : okT T (mU M j v) := by
  refine ⟨by rw [mU_ne (by omega)]; exact h.1, by rw [mU_ne (by omega)]; exact h.2.1, fun q a b d => ?_⟩
  by_cases c : q = j
  · rw [c, mU_self]; exact hv
  · rw [mU_ne c]; exact h.2.2 q a b d
theorem rowT_mU {R : Nat → Int32} {M : Nat → Nat} {j v : Nat} (h : rowT R M) : rowT (upd R j (nI v)) (mU M j v) := by
  intro q a b
  by_cases c : q = j
  · rw [c, pk_us, mU_self]
  · rw [pk_un c, mU_ne c]; exact h q a b
theorem strW_tk {T : Nat} {M : Nat → Nat} (ok : okT T M) {i what v n : Nat} (hi : i < M 1) (hw : what < 7) : tk (mU M (17 + 7 * i + what) v) n (17 + 7 * i + 5) = strW M i what v n := by
  have okl := okT_L ok
  rw [tk_ship _ (by rw [mU_ne (by omega)]; exact hi) n 5 (by decide), sailK_cong (mU_ne (by omega)) (mU_ne (by omega)) (mU_ne (by omega)) (mU_ne (by omega)) (mU_ne (by omega)) okl.2.2.2.2 okl.2.2.1 n]
  have e : shipN (mU M (17 + 7 * i + what) v) i = mU (shipN M i) what v := by
    funext f
    unfold shipN
    by_cases c : f = what
    · subst c; rw [mU_self, mU_self]
    · rw [mU_ne c, mU_ne (by omega)]
  rw [e]
  rfl
/-- the class tries one value -/
theorem c_with {N T i what v n : Nat} {M : Nat → Nat} {τ : tw_T} (ok : okT T M) (hT : M 0 + n ≤ 99999) (hl : litR (τ 2) M) (hi : i < M 1) (hs : shR (τ (1 + 4 + i)) (shipN M i)) (hw : what < 7) (hv : v < bdS what) (hN : n < N) :
    f_X8_strandedWith N (nI i) (nI what) (nI v) (nI n) τ = nI (strW M i what v n) ∧ (∃ r, g_X8_strandedWith N (nI i) (nI what) (nI v) (nI n) τ = tw_sr τ 45 r) ∧ p_X8_strandedWith N (nI i) (nI what) (nI v) (nI n) τ := by
  have hM1 := ok.2.1
  have os := okT_S ok (i := i) (by omega)
  have ei : (nI i).toNatClampNeg = i := nI_clamp (by omega)
  have ek : 3 + 2 + i = 1 + 4 + i := by omega
  unfold f_X8_strandedWith g_X8_strandedWith p_X8_strandedWith
  rw [ei, ek]
  obtain ⟨r, t1, t2⟩ := c_take (τ := τ) (k := 45) (o := 1 + 4 + i) (by omega)
  rw [t1, become_at hw, sr_self, sr_sr]
  have hsr : shR ((tw_sr τ 45 (upd r what (nI v))) 45) (mU (shipN M i) what v) := by
    rw [sr_self]
    intro f hf
    by_cases c : f = what
    · subst c; rw [pk_us, mU_self]
    · rw [pk_un c, mU_ne c, t2 f hf]; exact hs f hf
  obtain ⟨⟨r', s1, s2⟩, s3⟩ := c_sailOn (N := N) (k := 45) (o := 2) (n := n) (τ := tw_sr τ 45 (upd r what (nI v))) (M := M) (s := mU (shipN M i) what v) (T := T) (by rw [sr_ne (by decide)]; exact hl) hsr (okT_L ok) (okS_mU os hw hv) hT (by decide) hN
  rw [s1, sr_sr, sr_self]
  exact ⟨s2 5 (by decide), ⟨r', rfl⟩, vp_in_nI (by omega) (by decide), s3, trivial⟩
theorem strW_lt {T i what v n : Nat} {M : Nat → Nat} (ok : okT T M) (hi : i < M 1) (hw : what < 7) (hv : v < bdS what) : strW M i what v n < 10000 := by
  have := ok.2.1
  exact (okS_sailK (okS_mU (okT_S ok (i := i) (by omega)) hw hv) n).2.2.2.2.2.1
theorem l_best {N T i what n most : Nat} {M : Nat → Nat} (ok : okT T M) (hT : M 0 + n ≤ 99999) (hi : i < M 1) (hw : what < 7) (hb : bdS what = most + 1) (hm : most < 100) (hN : n < N) : ∀ d k fuel (τ : tw_T), k + 1 + d = most + 1 → d < fuel → litR (τ 2) M → shR (τ (1 + 4 + i)) (shipN M i) →
    lf_X8_bestToBecome_10 N fuel (nI i) (nI what) (nI most) (nI n) (nI (bs (fun v => strW M i what v n) k).1) (nI (bs (fun v => strW M i what v n) k).2) (nI (k + 1)) τ = nI (bs (fun v => strW M i what v n) most).1 ∧ (∃ r, lg_X8_bestToBecome_10 N fuel (nI i) (nI what) (nI most) (nI n) (nI (bs (fun v => strW M i what v n) k).1) (nI (bs (fun v => strW M i what v n) k).2) (nI (k + 1)) τ = tw_sr τ 45 r) ∧ lo_X8_bestToBecome_10 N fuel (nI i) (nI what) (nI most) (nI n) (nI (bs (fun v => strW M i what v n) k).1) (nI (bs (fun v => strW M i what v n) k).2) (nI (k + 1)) τ := by
  have hM1 := ok.2.1
  intro d
  induction d with
  | zero =>
    intro k fuel τ hk hf hl hs
    obtain ⟨u, rfl⟩ : ∃ u, fuel = u + 1 := ⟨fuel - 1, by omega⟩
    have hlt : nI most < nI (k + 1) := nI_lt (by omega) (by omega)
    rw [lf_X8_bestToBecome_10, lg_X8_bestToBecome_10, lo_X8_bestToBecome_10, if_pos hlt, if_pos hlt, if_pos hlt]
    refine ⟨?_, ⟨τ 45, (sr_id τ 45).symm⟩, trivial⟩
    rw [show most = k by omega]
  | succ d ih =>
    intro k fuel τ hk hf hl hs
    obtain ⟨u, rfl⟩ : ∃ u, fuel = u + 1 := ⟨fuel - 1, by omega⟩
    have hnlt : ¬ nI most < nI (k + 1) := nI_nlt (by omega) (by omega)
    obtain ⟨e1, ⟨r, e2⟩, e3⟩ := c_with (N := N) (n := n) (what := what) (v := k + 1) ok hT hl hi hs hw (by omega) hN
    have gB := strW_lt (n := n) ok hi hw (v := k + 1) (by omega)
    obtain ⟨b1, b2⟩ := bs_le (fun v => strW M i what v n) (B := 10000) k (fun v hv => strW_lt ok hi hw (by omega))
    rw [lf_X8_bestToBecome_10, lg_X8_bestToBecome_10, lo_X8_bestToBecome_10, if_neg hnlt, if_neg hnlt, if_neg hnlt, e1, e2, nI_1]
    obtain ⟨a1, ⟨r', a2⟩, a3⟩ := ih (k + 1) u (tw_sr τ 45 r) (by omega) (by omega) (by rw [sr_ne (by decide)]; exact hl) (by rw [sr_ne (by omega)]; exact hs)
    by_cases c : strW M i what (k + 1) n < (bs (fun v => strW M i what v n) k).2
    · have hle : ¬ nI (bs (fun v => strW M i what v n) k).2 ≤ nI (strW M i what (k + 1) n) := nI_ge c (by omega)
      have eb : bs (fun v => strW M i what v n) (k + 1) = (k + 1, strW M i what (k + 1) n) := if_pos c
      rw [eb] at a1 a2 a3
      rw [if_neg hle, if_neg hle, if_neg hle]
      exact ⟨a1, ⟨r', by rw [a2, sr_sr]⟩, e3, a3⟩
    · have hle : nI (bs (fun v => strW M i what v n) k).2 ≤ nI (strW M i what (k + 1) n) := nI_le (by omega) (by omega)
      have eb : bs (fun v => strW M i what v n) (k + 1) = bs (fun v => strW M i what v n) k := if_neg c
      rw [eb] at a1 a2 a3
      rw [if_pos hle, if_pos hle, if_pos hle]
      exact ⟨a1, ⟨r', by rw [a2, sr_sr]⟩, e3, a3⟩
theorem c_best {N T i what n most : Nat} {M : Nat → Nat} {τ : tw_T} (ok : okT T M) (hT : M 0 + n ≤ 99999) (hi : i < M 1) (hw : what < 7) (hb : bdS what = most + 1) (hm : most < 100) (hN : n < N) (hN2 : most + 1 < N) (hl : litR (τ 2) M) (hs : shR (τ (1 + 4 + i)) (shipN M i)) :
    f_X8_bestToBecome N (nI i) (nI what) (nI most) (nI n) τ = nI (bs (fun v => strW M i what v n) most).1 ∧ (∃ r, g_X8_bestToBecome N (nI i) (nI what) (nI most) (nI n) τ = tw_sr τ 45 r) ∧ p_X8_bestToBecome N (nI i) (nI what) (nI most) (nI n) τ := by
  have hM1 := ok.2.1
  obtain ⟨e1, ⟨r, e2⟩, e3⟩ := c_with (N := N) (n := n) (what := what) (v := 0) ok hT hl hi hs hw (by omega) hN
  have gB := strW_lt (n := n) ok hi hw (v := 0) (by omega)
  obtain ⟨P, rfl⟩ : ∃ P, N = P + 1 := ⟨N - 1, by omega⟩
  obtain ⟨a1, ⟨r', a2⟩, a3⟩ := l_best (N := P + 1) ok hT hi hw hb hm hN most 0 P (tw_sr τ 45 r) (by omega) (by omega) (by rw [sr_ne (by decide)]; exact hl) (by rw [sr_ne (by omega)]; exact hs)
  have hnlt : ¬ nI most < nI 0 := nI_nlt (by omega) (by omega)
  have hle : ¬ (79993 : Int32) ≤ nI (strW M i what 0 n) := nI_ge (a := strW M i what 0 n) (b := 79993) (by omega) (by decide)
  have st : f_X8_bestToBecome (P + 1) (nI i) (nI what) (nI most) (nI n) τ = lf_X8_bestToBecome_10 (P + 1) (P + 1) (nI i) (nI what) (nI most) (nI n) 0 79993 (nI 0) τ ∧ g_X8_bestToBecome (P + 1) (nI i) (nI what) (nI most) (nI n) τ = lg_X8_bestToBecome_10 (P + 1) (P + 1) (nI i) (nI what) (nI most) (nI n) 0 79993 (nI 0) τ ∧ (lo_X8_bestToBecome_10 (P + 1) (P + 1) (nI i) (nI what) (nI most) (nI n) 0 79993 (nI 0) τ → p_X8_bestToBecome (P + 1) (nI i) (nI what) (nI most) (nI n) τ) := ⟨rfl, rfl, id⟩
  obtain ⟨s1, s2, s3⟩ := st
  rw [s1, s2]
  rw [lo_X8_bestToBecome_10] at s3
  rw [lf_X8_bestToBecome_10, lg_X8_bestToBecome_10]
  simp only [hnlt, e1, e2, hle, if_false] at s3 ⊢
  exact ⟨a1, ⟨r', by rw [show lg_X8_bestToBecome_10 (P + 1) P (nI i) (nI what) (nI most) (nI n) (nI 0) (nI (strW M i what 0 n)) (nI 0 + 1) (tw_sr τ 45 r) = _ from a2, sr_sr]⟩, s3 ⟨e3, a3⟩⟩

theorem st_kindFor {c N : Nat} {τ : tw_T} (hI : Inv c τ) (hc : c < 512) (hN : 5000 ≤ N) (x1 x2 : Int32) : p_X8_kindFor N x1 x2 τ ∧ p_X9_kindFor N x1 x2 (g_X8_kindFor N x1 x2 τ) ∧ f_X8_kindFor N x1 x2 τ = f_X9_kindFor N x1 x2 (g_X8_kindFor N x1 x2 τ) ∧ Inv (c + 1) (g_X9_kindFor N x1 x2 (g_X8_kindFor N x1 x2 τ)) := by
  obtain ⟨M, ok, row, spt, ⟨hl, hn, hs⟩, hz⟩ := inv_M hI
  have hM1 := ok.2.1
  have hM0 := ok.1
  have r1 : τ 191 1 = nI (M 1) := row 1 (by decide) (by decide)
  obtain ⟨q1, q2⟩ := fail_B hI hc
  have rf : (g_X8_found ((-1000001)) τ) 191 1 = nI (M 1) := by rw [found_ne (by decide)]; exact r1
  unfold p_X8_kindFor p_X9_kindFor f_X9_kindFor g_X9_kindFor f_X8_kindFor g_X8_kindFor
  rcases isShip_or (τ := τ) hn hM1 x1 with ⟨a, b⟩ | ⟨i, hi, rfl, a, b⟩
  · simp only [a, b _ rf, if_true]
    exact ⟨trivial, ⟨q1, trivial⟩, rfl, q2⟩
  by_cases h : f_X8_within x2 0 60 τ = 0
  · have h9 : ∀ τ', f_X9_isThought x2 τ' = 0 := fun τ' => h
    simp only [a, b _ rf, h, h9, if_true, if_false]
    exact ⟨trivial, ⟨q1, trivial⟩, rfl, q2⟩
  have h9 : ∀ τ', ¬ f_X9_isThought x2 τ' = 0 := fun τ' => h
  obtain ⟨n, hn60, rfl⟩ := w_of (n := 60) rfl (by decide) h
  obtain ⟨a1, ⟨r, a2⟩, a3⟩ := c_best (N := N) (n := n) (what := 0) (most := 6) (τ := τ) ok (by omega) hi (by decide) rfl (by decide) (by omega) (by omega) hl (hs i hi)
  have a1' : f_X8_bestToBecome N (nI i) 0 6 (nI n) τ = _ := a1
  have a2' : g_X8_bestToBecome N (nI i) 0 6 (nI n) τ = _ := a2
  have a3' : p_X8_bestToBecome N (nI i) 0 6 (nI n) τ := a3
  simp only [a, h, h9, a2', if_false]
  have g191 : (tw_sr τ 45 r) 191 = τ 191 := sr_ne (by decide)
  have hh := b (tw_sr τ 45 r) (by rw [g191]; exact r1)
  rw [if_neg hh, if_neg hh, if_neg hh]
  have ea : f_X9_shipAt (nI i) 0 (tw_sr τ 45 r) = nI (17 + 7 * i + 0) := m_at i 0 _
  rw [ea]
  obtain ⟨b1, ⟨Y, b2⟩, b3⟩ := ml_lst0 (N := N) (p := 17 + 7 * i + 0) (V := 7) (n := n) (i := i) (B := 10000) (G := fun v => strW M i 0 v n) (τ := tw_sr τ 45 r) (by omega) (by omega) (by decide) (by decide) (by omega) (by decide) (fun v hv => strW_lt ok hi (by decide) hv) (fun v hv Y => by
    have e5 : ∀ T, f_X9_shipAt (nI i) 5 T = nI (17 + 7 * i + 5) := fun T => m_at i 5 T
    have okv := okT_mU (j := 17 + 7 * i + 0) (v := v) ok (by omega) (by omega) (by omega) (by rw [bd_ship (by decide)]; exact hv)
    obtain ⟨c1, c2, c3⟩ := m_behind (N := N) (n := n) (j := 17 + 7 * i + 5) (τ := thk (tw_sr τ 45 r) Y (17 + 7 * i + 0) (nI v)) okv (by omega) (by omega) (by omega) (by rw [thk_191, g191]; exact rowT_mU row) (by omega) (by omega)
    rw [e5]
    refine ⟨?_, ⟨_, by rw [c2, thk_193]⟩, c3⟩
    rw [c1, strW_tk ok hi (by decide)])
  have b1' : f_X9_leastFor N (nI (17 + 7 * i + 0)) 7 (nI i) (nI n) (tw_sr τ 45 r) = _ := b1
  have b2' : g_X9_leastFor N (nI (17 + 7 * i + 0)) 7 (nI i) (nI n) (tw_sr τ 45 r) = _ := b2
  refine ⟨⟨a3', trivial⟩, ⟨b3, trivial⟩, a1'.trans b1'.symm, ?_⟩
  rw [b2']
  exact Inv_mono (inv_scratch hI hc (by decide) r Y) hc

theorem st_start {c N : Nat} {τ : tw_T} (hI : Inv c τ) (hc : c < 512) (hN : 5000 ≤ N) (x1 x2 : Int32) : p_X8_start N x1 x2 τ ∧ p_X9_start N x1 x2 (g_X8_start N x1 x2 τ) ∧ f_X8_start N x1 x2 τ = f_X9_start N x1 x2 (g_X8_start N x1 x2 τ) ∧ Inv (c + 1) (g_X9_start N x1 x2 (g_X8_start N x1 x2 τ)) := by
  obtain ⟨M, ok, row, spt, ⟨hl, hn, hs⟩, hz⟩ := inv_M hI
  have hM1 := ok.2.1
  have hM0 := ok.1
  have r1 : τ 191 1 = nI (M 1) := row 1 (by decide) (by decide)
  obtain ⟨q1, q2⟩ := fail_B hI hc
  have rf : (g_X8_found ((-1000001)) τ) 191 1 = nI (M 1) := by rw [found_ne (by decide)]; exact r1
  unfold p_X8_start p_X9_start f_X9_start g_X9_start f_X8_start g_X8_start
  rcases isShip_or (τ := τ) hn hM1 x1 with ⟨a, b⟩ | ⟨i, hi, rfl, a, b⟩
  · simp only [a, b _ rf, if_true]
    exact ⟨trivial, ⟨q1, trivial⟩, rfl, q2⟩
  by_cases h : f_X8_within x2 0 60 τ = 0
  · have h9 : ∀ τ', f_X9_isThought x2 τ' = 0 := fun τ' => h
    simp only [a, b _ rf, h, h9, if_true, if_false]
    exact ⟨trivial, ⟨q1, trivial⟩, rfl, q2⟩
  have h9 : ∀ τ', ¬ f_X9_isThought x2 τ' = 0 := fun τ' => h
  obtain ⟨n, hn60, rfl⟩ := w_of (n := 60) rfl (by decide) h
  obtain ⟨a1, ⟨r, a2⟩, a3⟩ := c_best (N := N) (n := n) (what := 1) (most := 23) (τ := τ) ok (by omega) hi (by decide) rfl (by decide) (by omega) (by omega) hl (hs i hi)
  have a1' : f_X8_bestToBecome N (nI i) 1 23 (nI n) τ = _ := a1
  have a2' : g_X8_bestToBecome N (nI i) 1 23 (nI n) τ = _ := a2
  have a3' : p_X8_bestToBecome N (nI i) 1 23 (nI n) τ := a3
  simp only [a, h, h9, a2', if_false]
  have g191 : (tw_sr τ 45 r) 191 = τ 191 := sr_ne (by decide)
  have hh := b (tw_sr τ 45 r) (by rw [g191]; exact r1)
  rw [if_neg hh, if_neg hh, if_neg hh]
  have ea : f_X9_shipAt (nI i) 1 (tw_sr τ 45 r) = nI (17 + 7 * i + 1) := m_at i 1 _
  rw [ea]
  obtain ⟨b1, ⟨Y, b2⟩, b3⟩ := ml_lst0 (N := N) (p := 17 + 7 * i + 1) (V := 24) (n := n) (i := i) (B := 10000) (G := fun v => strW M i 1 v n) (τ := tw_sr τ 45 r) (by omega) (by omega) (by decide) (by decide) (by omega) (by decide) (fun v hv => strW_lt ok hi (by decide) hv) (fun v hv Y => by
    have e5 : ∀ T, f_X9_shipAt (nI i) 5 T = nI (17 + 7 * i + 5) := fun T => m_at i 5 T
    have okv := okT_mU (j := 17 + 7 * i + 1) (v := v) ok (by omega) (by omega) (by omega) (by rw [bd_ship (by decide)]; exact hv)
    obtain ⟨c1, c2, c3⟩ := m_behind (N := N) (n := n) (j := 17 + 7 * i + 5) (τ := thk (tw_sr τ 45 r) Y (17 + 7 * i + 1) (nI v)) okv (by omega) (by omega) (by omega) (by rw [thk_191, g191]; exact rowT_mU row) (by omega) (by omega)
    rw [e5]
    refine ⟨?_, ⟨_, by rw [c2, thk_193]⟩, c3⟩
    rw [c1, strW_tk ok hi (by decide)])
  have b1' : f_X9_leastFor N (nI (17 + 7 * i + 1)) 24 (nI i) (nI n) (tw_sr τ 45 r) = _ := b1
  have b2' : g_X9_leastFor N (nI (17 + 7 * i + 1)) 24 (nI i) (nI n) (tw_sr τ 45 r) = _ := b2
  refine ⟨⟨a3', trivial⟩, ⟨b3, trivial⟩, a1'.trans b1'.symm, ?_⟩
  rw [b2']
  exact Inv_mono (inv_scratch hI hc (by decide) r Y) hc
