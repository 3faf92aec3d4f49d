/-! ===== steps: the plain calls ===== -/
def keepC (k : Nat) : Prop := ¬ (1 ≤ k ∧ k ≤ 13) ∧ ¬ (31 ≤ k ∧ k ≤ 47) ∧ ¬ (49 ≤ k ∧ k ≤ 181) ∧ k ≠ 191 ∧ k ≠ 193 ∧ k ≠ 197 ∧ k ≠ 201
theorem Inv_sea {c : Nat} {τ τ' : tw_T} (hI : Inv c τ) (hc : c < 512) (hk : ∀ k, keepC k → τ' k = τ k) (hs : I_sea (c + 1) τ') : Inv (c + 1) τ' := by
  obtain ⟨h0, h1, h2, h3, h4, h5, h6⟩ := hI
  have r : ∀ k, keepC k → τ' k = τ k := hk
  have d : ∀ k, (k = 0 ∨ k = 190 ∨ k = 192 ∨ k = 27 ∨ k = 28 ∨ k = 195 ∨ k = 198 ∨ k = 199 ∨ k = 200 ∨ k = 30 ∨ k = 194 ∨ k = 48) → τ' k = τ k := fun k h => r k (by unfold keepC; omega)
  exact ⟨by omega, hs, I_kept_congr (by rw [d 0 (by decide)]) (by rw [d 190 (by decide)]) (fun k a b => r k (by unfold keepC; omega)) (d 192 (by decide)) (I_kept_mono h2), I_tape_congr (by rw [d 190 (by decide)]) (by rw [d 27 (by decide)]) (d 28 (by decide)) (d 195 (by decide)) h3, I_sheet_congr (fun k a b => r k (by unfold keepC; omega)) (d 198 (by decide)) (d 199 (by decide)) (d 200 (by decide)) h4, I_fnd_congr (d 30 (by decide)) (d 194 (by decide)) h5, I_dem_congr (d 48 (by decide)) h6⟩
theorem Inv_same {c : Nat} {τ τ' : tw_T} (hI : Inv c τ) (hc : c < 512) (hk : ∀ k, keepC k ∨ (1 ≤ k ∧ k ≤ 13) ∨ k = 191 → τ' k = τ k) : Inv (c + 1) τ' :=
  Inv_sea hI hc (fun k h => hk k (Or.inl h)) (I_sea_congr (fun k a b => hk k (Or.inr (Or.inl ⟨a, b⟩))) (hk 191 (Or.inr (Or.inr rfl))) (I_sea_mono hI.2.1))
theorem Inv_mono {c : Nat} {τ : tw_T} (hI : Inv c τ) (hc : c < 512) : Inv (c + 1) τ := Inv_same hI hc (fun _ _ => rfl)
theorem st_seed {c : Nat} {τ : tw_T} (hI : Inv c τ) (hc : c < 512) (x1 : Int32) : p_X9_seed x1 (g_X8_seed x1 τ) ∧ f_X8_seed x1 τ = f_X9_seed x1 (g_X8_seed x1 τ) ∧ Inv (c + 1) (g_X9_seed x1 (g_X8_seed x1 τ)) := by
  have e : (2 : Int32).toNatClampNeg = 2 := rfl
  unfold p_X9_seed p_X9_become f_X8_seed f_X9_seed g_X9_seed f_X9_become g_X9_become g_X8_seed
  rw [e]
  have hv : vp_in 2 73 := vp_in_nI (n := 2) (by decide) (by decide)
  refine ⟨⟨⟨hv, hv, trivial⟩, trivial⟩, ?_, ?_⟩
  · rw [sr_ne (by decide)]; exact hI.2.1.2.2.2.1
  · refine Inv_sea hI hc (fun k hk => by unfold keepC at hk; rw [sr_ne (by omega), sr_ne (by omega)]) ?_
    unfold I_sea
    rw [sr_self, sr_ne (by decide)]
    exact ⟨rng_z (rng_mono hI.2.1.1), seaR_congr (fun k a b => by rw [sr_ne (by omega)]) (seaR_z hI.2.1.2)⟩
theorem st_tear {c : Nat} {τ : tw_T} (hI : Inv c τ) (hc : c < 512) : f_X8_tear τ = f_X9_tear (g_X8_tear τ) ∧ Inv (c + 1) (g_X9_tear (g_X8_tear τ)) := by
  unfold f_X8_tear f_X9_tear g_X9_tear g_X8_tear
  obtain ⟨h0, h1, h2, h3, h4, h5, h6⟩ := hI
  refine ⟨?_, ?_⟩
  · rw [sr_ne (by decide), h2.1]
  · have r : ∀ k, k ≠ 0 → k ≠ 190 → ∀ a b, tw_sr (tw_sr τ 0 a) 190 b k = τ k := fun k a b x y => by rw [sr_ne b, sr_ne a]
    refine ⟨by omega, I_sea_congr (fun k a b => r k (by omega) (by omega) _ _) (r _ (by decide) (by decide) _ _) (I_sea_mono h1), ⟨?_, ?_, ?_⟩, I_tape_congr ?_ (by rw [r _ (by decide) (by decide)]) (r _ (by decide) (by decide) _ _) (r _ (by decide) (by decide) _ _) h3, I_sheet_congr (fun k a b => r k (by omega) (by omega) _ _) (r _ (by decide) (by decide) _ _) (r _ (by decide) (by decide) _ _) (r _ (by decide) (by decide) _ _) h4, I_fnd_congr (r _ (by decide) (by decide) _ _) (r _ (by decide) (by decide) _ _) h5, I_dem_congr (r _ (by decide) (by decide) _ _) h6⟩
    · rw [sr_self, sr_ne (by decide), sr_self, upd_self, upd_self]
    · rw [sr_self, upd_self]; exact Or.inl rfl
    · rw [sr_self, upd_self]
      intro q
      exact absurd q (by decide)
    · rw [sr_self, upd_ne (by decide), sr_ne (by decide)]
theorem st_wipe {c : Nat} {τ : tw_T} (hI : Inv c τ) (hc : c < 512) : f_X8_wipe τ = f_X9_wipe (g_X8_wipe τ) ∧ Inv (c + 1) (g_X9_wipe (g_X8_wipe τ)) := by
  unfold f_X8_wipe f_X9_wipe g_X9_wipe g_X8_wipe
  obtain ⟨h0, h1, h2, h3, h4, h5, h6⟩ := hI
  refine ⟨?_, ?_⟩
  · obtain ⟨n, -, a, b, -⟩ := h3
    rw [sr_ne (by decide), a, b]
  · have r : ∀ k, k ≠ 27 → k ≠ 190 → ∀ a b, tw_sr (tw_sr τ 27 a) 190 b k = τ k := fun k a b x y => by rw [sr_ne b, sr_ne a]
    refine ⟨by omega, I_sea_congr (fun k a b => r k (by omega) (by omega) _ _) (r _ (by decide) (by decide) _ _) (I_sea_mono h1), I_kept_congr (by rw [r _ (by decide) (by decide)]) ?_ (fun k a b => r k (by omega) (by omega) _ _) (r _ (by decide) (by decide) _ _) (I_kept_mono h2), ⟨0, by decide, ?_, ?_, fun j hj => absurd hj (by omega)⟩, I_sheet_congr (fun k a b => r k (by omega) (by omega) _ _) (r _ (by decide) (by decide) _ _) (r _ (by decide) (by decide) _ _) (r _ (by decide) (by decide) _ _) h4, I_fnd_congr (r _ (by decide) (by decide) _ _) (r _ (by decide) (by decide) _ _) h5, I_dem_congr (r _ (by decide) (by decide) _ _) h6⟩
    · rw [sr_self, upd_ne (by decide), sr_ne (by decide)]
    · rw [sr_self, upd_self]; rfl
    · rw [sr_ne (by decide), sr_self, upd_self]; rfl
