/-! ===== pure: words of the invariant ===== -/
theorem wi8 {v lo hi : Int32} {τ : tw_T} : f_X8_within v lo hi τ = 0 ↔ (v < lo ∨ hi < v) := by
  unfold f_X8_within
  by_cases h1 : v < lo
  · simp [h1]
  · by_cases h2 : hi < v
    · simp [h1, h2]
    · simp [h1, h2]
theorem wi9 {v lo hi : Int32} {τ : tw_T} : f_X9_within v lo hi τ = 0 ↔ (v < lo ∨ hi < v) := by
  unfold f_X9_within
  by_cases h1 : v < lo
  · simp [h1]
  · by_cases h2 : hi < v
    · simp [h1, h2]
    · simp [h1, h2]
theorem wi89 {v lo hi : Int32} {τ τ' : tw_T} : f_X9_within v lo hi τ' = f_X8_within v lo hi τ := rfl
/-- the numbers of a sea, as naturals: places as in the model's row -/
def bdS (f : Nat) : Nat := ([7, 24, 2, 6, 2, 10000, 10000] : List Nat).getD f 0
def bd (j : Nat) : Nat := if j = 3 then 4096 else if j = 4 then 24 else if j = 5 then 2 else if j = 6 then 16777216 else bdS ((j - 17) % 7)
def okM (c : Nat) (M : Nat → Nat) : Prop := M 0 ≤ 60 * c ∧ M 1 ≤ 8 ∧ ∀ j, 3 ≤ j → j < 73 → (j < 7 ∨ 17 ≤ j) → M j < bd j
theorem bd_ship {i f : Nat} (hf : f < 7) : bd (17 + 7 * i + f) = bdS f := by
  unfold bd
  rw [if_neg (by omega), if_neg (by omega), if_neg (by omega), if_neg (by omega)]
  have e : (17 + 7 * i + f - 17) % 7 = f := by omega
  rw [e]
theorem okM_ship {c : Nat} {M : Nat → Nat} (h : okM c M) {i f : Nat} (hi : i < 8) (hf : f < 7) : M (17 + 7 * i + f) < bdS f := by
  rw [← bd_ship (i := i) hf]
  exact h.2.2 _ (by omega) (by omega) (by omega)
def rowM (N : Nat → Int32) (M : Nat → Nat) : Prop := (∀ j, j < 7 → j ≠ 2 → N j = nI (M j)) ∧ (∀ j, 17 ≤ j → j < 73 → N j = nI (M j)) ∧ ∀ i, i < 10 → N (7 + i) = -1 ∨ ∃ k, k < M 1 ∧ N (7 + i) = nI k
def rng (c : Nat) (N : Nat → Int32) : Prop := ∃ M, okM c M ∧ rowM N M
theorem okM_mono {c : Nat} {M : Nat → Nat} (h : okM c M) : okM (c + 1) M := ⟨by have := h.1; omega, h.2⟩
theorem rng_mono {c : Nat} {N : Nat → Int32} (h : rng c N) : rng (c + 1) N := by
  obtain ⟨M, h1, h2⟩ := h
  exact ⟨M, okM_mono h1, h2⟩
/-- the class's sea at b holds what the row N tells -/
def seaR (τ : tw_T) (b : Nat) (N : Nat → Int32) : Prop := (τ (b + 1) 0 = N 3 ∧ τ (b + 1) 1 = N 4 ∧ τ (b + 1) 2 = N 5 ∧ τ (b + 1) 3 = N 6 ∧ τ (b + 1) 4 = N 0) ∧ τ (b + 2) 1 = N 1 ∧ τ b 3 = N 2 ∧ (∀ i, i < 10 → τ (b + 12) i = N (7 + i)) ∧ ∀ i, i < 8 → nI i < N 1 → ∀ f, f < 7 → τ (b + 4 + i) f = N (17 + 7 * i + f)
def I_sea (c : Nat) (τ : tw_T) : Prop := rng c (τ 191) ∧ seaR τ 1 (τ 191)
def I_kept (c : Nat) (τ : tw_T) : Prop := τ 0 2 = τ 190 3 ∧ (τ 190 3 = 0 ∨ τ 190 3 = 1) ∧ (τ 190 3 = 1 → rng c (τ 192) ∧ seaR τ 14 (τ 192))
def I_tape (τ : tw_T) : Prop := ∃ n, n ≤ 120 ∧ τ 190 6 = nI n ∧ τ 27 1 = nI n ∧ ∀ j, j < n → τ 28 j = τ 195 j ∧ ∃ b, b < 256 ∧ τ 195 j = nI b
def I_sheet (τ : tw_T) : Prop := ∀ s, s < 4 → τ (182 + 2 * s) 1 = τ 198 s ∧ τ (182 + 2 * s) 2 = τ 199 s ∧ (τ 198 s = 0 ∨ τ 198 s = 8 ∨ τ 198 s = 16 ∨ τ 198 s = 32) ∧ (∃ n, n ≤ 40 ∧ τ 199 s = nI n) ∧ ∀ j, j < 40 → τ (182 + 2 * s + 1) j = τ 200 (40 * s + j)
def sum7 (r : Nat → Int32) : Int32 := 0 + r 0 + r 1 + r 2 + r 3 + r 4 + r 5 + r 6
def I_fnd (τ : tw_T) : Prop := (∀ j, j < 7 → τ 30 j = τ 194 (j + 1)) ∧ τ 194 0 = sum7 (τ 30)
def I_dem (τ : tw_T) : Prop := τ 48 2 = 0 ∨ τ 48 2 = 1
def Inv (c : Nat) (τ : tw_T) : Prop := c ≤ 512 ∧ I_sea c τ ∧ I_kept c τ ∧ I_tape τ ∧ I_sheet τ ∧ I_fnd τ ∧ I_dem τ
theorem seaR_congr {τ τ' : tw_T} {b : Nat} {N : Nat → Int32} (hk : ∀ k, b ≤ k → k ≤ b + 12 → τ' k = τ k) (h : seaR τ b N) : seaR τ' b N := by
  obtain ⟨h1, h2, h3, h4, h5⟩ := h
  refine ⟨?_, ?_, ?_, fun i hi => ?_, fun i hi hn f hf => ?_⟩
  · rw [hk (b + 1) (by omega) (by omega)]; exact h1
  · rw [hk (b + 2) (by omega) (by omega)]; exact h2
  · rw [hk b (by omega) (by omega)]; exact h3
  · rw [hk (b + 12) (by omega) (by omega)]; exact h4 i hi
  · rw [hk (b + 4 + i) (by omega) (by omega)]; exact h5 i hi hn f hf
theorem I_sea_congr {c : Nat} {τ τ' : tw_T} (hk : ∀ k, 1 ≤ k → k ≤ 13 → τ' k = τ k) (h9 : τ' 191 = τ 191) (h : I_sea c τ) : I_sea c τ' := by
  unfold I_sea
  rw [h9]
  exact ⟨h.1, seaR_congr (fun k h1 h2 => hk k h1 (by omega)) h.2⟩
theorem I_kept_congr {c : Nat} {τ τ' : tw_T} (h0 : τ' 0 2 = τ 0 2) (h1 : τ' 190 3 = τ 190 3) (hk : ∀ k, 14 ≤ k → k ≤ 26 → τ' k = τ k) (h9 : τ' 192 = τ 192) (h : I_kept c τ) : I_kept c τ' := by
  unfold I_kept
  rw [h0, h1, h9]
  exact ⟨h.1, h.2.1, fun q => ⟨(h.2.2 q).1, seaR_congr (fun k h1 h2 => hk k h1 (by omega)) (h.2.2 q).2⟩⟩
theorem I_tape_congr {τ τ' : tw_T} (h0 : τ' 190 6 = τ 190 6) (h1 : τ' 27 1 = τ 27 1) (h2 : τ' 28 = τ 28) (h3 : τ' 195 = τ 195) (h : I_tape τ) : I_tape τ' := by
  unfold I_tape
  rw [h0, h1, h2, h3]
  exact h
theorem I_sheet_congr {τ τ' : tw_T} (hk : ∀ k, 182 ≤ k → k ≤ 189 → τ' k = τ k) (h0 : τ' 198 = τ 198) (h1 : τ' 199 = τ 199) (h2 : τ' 200 = τ 200) (h : I_sheet τ) : I_sheet τ' := by
  intro s hs
  rw [h0, h1, h2, hk (182 + 2 * s) (by omega) (by omega), hk (182 + 2 * s + 1) (by omega) (by omega)]
  exact h s hs
theorem I_fnd_congr {τ τ' : tw_T} (h0 : τ' 30 = τ 30) (h1 : τ' 194 = τ 194) (h : I_fnd τ) : I_fnd τ' := by
  unfold I_fnd
  rw [h0, h1]
  exact h
theorem I_dem_congr {τ τ' : tw_T} (h0 : τ' 48 = τ 48) (h : I_dem τ) : I_dem τ' := by
  unfold I_dem
  rw [h0]
  exact h
theorem I_kept_mono {c : Nat} {τ : tw_T} (h : I_kept c τ) : I_kept (c + 1) τ := ⟨h.1, h.2.1, fun q => ⟨rng_mono (h.2.2 q).1, (h.2.2 q).2⟩⟩
theorem I_sea_mono {c : Nat} {τ : tw_T} (h : I_sea c τ) : I_sea (c + 1) τ := ⟨rng_mono h.1, h.2⟩
/-! findings -/
theorem i32_lc (a b c : Int32) : a + (b + c) = b + (a + c) := by rw [← Int32.add_assoc, Int32.add_comm a b, Int32.add_assoc]
theorem found8 {F : Int32} {j : Nat} {τ : tw_T} (hj : j < 7) (h : (-1000001) - F = nI j) : g_X8_found F τ = tw_sr τ 30 (upd (τ 30) j (τ 30 j + 1)) := by
  unfold g_X8_found
  have h0 : ¬ f_X8_within ((-1000001) - F) 0 6 τ = 0 := by
    rw [wi8, h]
    intro q
    rcases q with q | q
    · exact nI_pos (by omega) q
    · rw [show (6 : Int32) = nI 6 from rfl, nI_ltI (by omega) (by omega)] at q
      omega
  rw [if_neg h0, h, nI_clamp (by omega)]
theorem find9 {F : Int32} {j : Nat} {τ : tw_T} (hj : j < 7) (h : (-1000001) - F = nI j) : p_X9_finding F τ ∧ g_X9_finding F τ = tw_sr τ 194 (upd (upd (τ 194) (j + 1) (τ 194 (j + 1) + 1)) 0 (τ 194 0 + 1)) := by
  unfold p_X9_finding g_X9_finding
  rw [h, nI_1, nI_clamp (by omega)]
  have hv : vp_in (nI (j + 1)) 8 := vp_in_nI (by omega) (by omega)
  refine ⟨⟨hv, hv, trivial⟩, ?_⟩
  rw [sr_sr, sr_self]
  have e : upd (τ 194) (j + 1) (τ 194 (j + 1) + 1) 0 = τ 194 0 := by simp [upd]
  rw [e]
theorem I_fnd_step {τ τ' : tw_T} {j : Nat} (hj : j < 7) (h0 : τ' 30 = upd (τ 30) j (τ 30 j + 1)) (h1 : τ' 194 = upd (upd (τ 194) (j + 1) (τ 194 (j + 1) + 1)) 0 (τ 194 0 + 1)) (h : I_fnd τ) : I_fnd τ' := by
  obtain ⟨a, b⟩ := h
  unfold I_fnd
  rw [h0, h1]
  constructor
  · intro i hi
    by_cases e : i = j
    · subst e
      simp [upd, a i hi]
    · simp [upd, e, a i hi]
  · rw [show upd (upd (τ 194) (j + 1) (τ 194 (j + 1) + 1)) 0 (τ 194 0 + 1) 0 = τ 194 0 + 1 from rfl, b]
    unfold sum7
    rcases (show j = 0 ∨ j = 1 ∨ j = 2 ∨ j = 3 ∨ j = 4 ∨ j = 5 ∨ j = 6 by omega) with rfl | rfl | rfl | rfl | rfl | rfl | rfl <;> simp [upd, Int32.add_assoc, Int32.add_comm, i32_lc]
/-- both sides tell the same finding -/
theorem fail_step {c : Nat} {F : Int32} {j : Nat} {τ : tw_T} (hI : Inv c τ) (hc : c < 512) (hj : j < 7) (h : (-1000001) - F = nI j) : p_X9_finding F (g_X8_found F τ) ∧ Inv (c + 1) (g_X9_finding F (g_X8_found F τ)) := by
  obtain ⟨h0, h1, h2, h3, h4, h5, h6⟩ := hI
  have e8 := found8 (τ := τ) hj h
  have e9 := find9 (τ := g_X8_found F τ) hj h
  refine ⟨e9.1, ?_⟩
  rw [e9.2, e8]
  have r : ∀ k, k ≠ 30 → k ≠ 194 → ∀ r r', tw_sr (tw_sr τ 30 r) 194 r' k = τ k := fun k a b r r' => by rw [sr_ne b, sr_ne a]
  refine ⟨by omega, I_sea_congr (fun k a b => r k (by omega) (by omega) _ _) (r _ (by decide) (by decide) _ _) (I_sea_mono h1), I_kept_congr (by rw [r _ (by decide) (by decide)]) (by rw [r _ (by decide) (by decide)]) (fun k a b => r k (by omega) (by omega) _ _) (r _ (by decide) (by decide) _ _) (I_kept_mono h2), I_tape_congr (by rw [r _ (by decide) (by decide)]) (by rw [r _ (by decide) (by decide)]) (r _ (by decide) (by decide) _ _) (r _ (by decide) (by decide) _ _) h3, I_sheet_congr (fun k a b => r k (by omega) (by omega) _ _) (r _ (by decide) (by decide) _ _) (r _ (by decide) (by decide) _ _) (r _ (by decide) (by decide) _ _) h4, I_fnd_step hj ?_ ?_ h5, I_dem_congr (r _ (by decide) (by decide) _ _) h6⟩
  · rw [sr_ne (by decide), sr_self]
  · rw [sr_self, sr_ne (by decide)]
