/-! ===== the calls: lights, ships ===== -/
theorem w_of {v hi : Int32} {n : Nat} {τ : tw_T} (hn : hi = nI n) (h2 : n < 2 ^ 31) (h : ¬ f_X8_within v 0 hi τ = 0) : ∃ j, j ≤ n ∧ v = nI j := by
  rw [wi8] at h
  have h3 : ¬ v < 0 := fun q => h (Or.inl q)
  have h4 : ¬ hi < v := fun q => h (Or.inr q)
  exact nI_of2 (by rw [hn, nI_toInt h2]) h3 (Int32.not_lt.mp h4)
theorem w_in {n m : Nat} {τ : tw_T} (h : m ≤ n) (h2 : n < 2 ^ 31) : ¬ f_X8_within (nI m) 0 (nI n) τ = 0 := by
  rw [wi8]
  rintro (q | q)
  · exact nI_pos (by omega) q
  · exact nI_nlt h h2 q
theorem found_ne {F : Int32} {τ : tw_T} {k : Nat} (h : k ≠ 30) : g_X8_found F τ k = τ k := by
  unfold g_X8_found
  split
  · rfl
  · exact sr_ne h
theorem fail_B {c : Nat} {τ : tw_T} (hI : Inv c τ) (hc : c < 512) : p_X9_finding ((-1000001)) (g_X8_found ((-1000001)) τ) ∧ Inv (c + 1) (g_X9_finding ((-1000001)) (g_X8_found ((-1000001)) τ)) := fail_step (j := 0) hI hc (by decide) (by decide)
theorem fail_F {c : Nat} {τ : tw_T} (hI : Inv c τ) (hc : c < 512) : p_X9_finding ((-1000002)) (g_X8_found ((-1000002)) τ) ∧ Inv (c + 1) (g_X9_finding ((-1000002)) (g_X8_found ((-1000002)) τ)) := fail_step (j := 1) hI hc (by decide) (by decide)
theorem fail_K {c : Nat} {τ : tw_T} (hI : Inv c τ) (hc : c < 512) : p_X9_finding ((-1000003)) (g_X8_found ((-1000003)) τ) ∧ Inv (c + 1) (g_X9_finding ((-1000003)) (g_X8_found ((-1000003)) τ)) := fail_step (j := 2) hI hc (by decide) (by decide)
theorem fail_N {c : Nat} {τ : tw_T} (hI : Inv c τ) (hc : c < 512) : p_X9_finding ((-1000004)) (g_X8_found ((-1000004)) τ) ∧ Inv (c + 1) (g_X9_finding ((-1000004)) (g_X8_found ((-1000004)) τ)) := fail_step (j := 3) hI hc (by decide) (by decide)
theorem fail_T {c : Nat} {τ : tw_T} (hI : Inv c τ) (hc : c < 512) : p_X9_finding ((-1000005)) (g_X8_found ((-1000005)) τ) ∧ Inv (c + 1) (g_X9_finding ((-1000005)) (g_X8_found ((-1000005)) τ)) := fail_step (j := 4) hI hc (by decide) (by decide)
theorem fail_M {c : Nat} {τ : tw_T} (hI : Inv c τ) (hc : c < 512) : p_X9_finding ((-1000006)) (g_X8_found ((-1000006)) τ) ∧ Inv (c + 1) (g_X9_finding ((-1000006)) (g_X8_found ((-1000006)) τ)) := fail_step (j := 5) hI hc (by decide) (by decide)
theorem fail_Z {c : Nat} {τ : tw_T} (hI : Inv c τ) (hc : c < 512) : p_X9_finding ((-1000007)) (g_X8_found ((-1000007)) τ) ∧ Inv (c + 1) (g_X9_finding ((-1000007)) (g_X8_found ((-1000007)) τ)) := fail_step (j := 6) hI hc (by decide) (by decide)
/-- a number of the lights becomes m, on both sides -/
theorem light_fin {c a m : Nat} {τ : tw_T} (hI : Inv c τ) (hc : c < 512) (ha : a < 4) (hm : m < bd (3 + a)) : Inv (c + 1) (tw_sr (tw_sr τ 2 (upd (τ 2) a (nI m))) 191 (upd (τ 191) (3 + a) (nI m))) := by
  refine Inv_sea hI hc (fun k hk => by unfold keepC at hk; rw [sr_ne (by omega), sr_ne (by omega)]) ?_
  unfold I_sea
  rw [sr_self]
  have e : plL a = 3 + a := by
    rcases (show a = 0 ∨ a = 1 ∨ a = 2 ∨ a = 3 by omega) with rfl | rfl | rfl | rfl <;> rfl
  refine ⟨rng_upd (rng_mono hI.2.1.1) (by omega) (by omega) (by omega) hm, ?_⟩
  have h := seaR_light (a := a) (v := nI m) hI.2.1.2 (by omega)
  rw [e] at h
  exact seaR_congr (fun k a b => by rw [sr_ne (by omega)]) h
theorem st_set {c : Nat} {τ : tw_T} (hI : Inv c τ) (hc : c < 512) (x1 x2 : Int32) : p_X9_set x1 x2 (g_X8_set x1 x2 τ) ∧ f_X8_set x1 x2 τ = f_X9_set x1 x2 (g_X8_set x1 x2 τ) ∧ Inv (c + 1) (g_X9_set x1 x2 (g_X8_set x1 x2 τ)) := by
  have hl := hI.2.1.2.1
  have key : ∀ (a : Nat) (hi : Int32) (n : Nat), a < 4 → hi = nI n → n < 2 ^ 31 → bd (3 + a) = n + 1 → x1 = nI a → f_X2_mayBecome (nI a) x2 τ = f_X8_within x2 0 hi τ → (∀ τ', f_X9_mostOf (nI a) τ' = hi) → (g_X2_become 2 (nI a) x2 τ = tw_sr τ 2 (upd (τ 2) a x2)) → f_X2_told 2 (nI a) τ = τ 191 (3 + a) →
      p_X9_set x1 x2 (g_X8_set x1 x2 τ) ∧ f_X8_set x1 x2 τ = f_X9_set x1 x2 (g_X8_set x1 x2 τ) ∧ Inv (c + 1) (g_X9_set x1 x2 (g_X8_set x1 x2 τ)) := by
    intro a hi n ha hn h31 hbd e1 hmb hmo hbe hto
    subst e1
    have hw3 : ∀ τ', ¬ f_X9_within (nI a) 0 3 τ' = 0 := fun τ' => w_in (τ := τ') (n := 3) (by omega) (by decide)
    by_cases h : f_X8_within x2 0 hi τ = 0
    · have e8 : g_X8_set (nI a) x2 τ = g_X8_found ((-1000001)) τ := by unfold g_X8_set; rw [hmb, if_pos h]
      have f8 : f_X8_set (nI a) x2 τ = (-1000001) := by unfold f_X8_set; rw [hmb, if_pos h]
      have h9 : ∀ τ', f_X9_within x2 0 hi τ' = 0 := fun τ' => h
      obtain ⟨q1, q2⟩ := fail_B hI hc
      unfold p_X9_set f_X9_set g_X9_set
      rw [e8, f8, if_neg (hw3 _), if_neg (hw3 _), if_neg (hw3 _), hmo, if_pos (h9 _), if_pos (h9 _), if_pos (h9 _)]
      exact ⟨⟨q1, trivial⟩, rfl, q2⟩
    · obtain ⟨m, hm, rfl⟩ := w_of hn h31 h
      have e8 : g_X8_set (nI a) (nI m) τ = tw_sr τ 2 (upd (τ 2) a (nI m)) := by unfold g_X8_set; rw [hmb, if_neg h, hbe]
      have f8 : f_X8_set (nI a) (nI m) τ = τ 191 (3 + a) := by unfold f_X8_set; rw [hmb, if_neg h, hto]
      have h9 : ∀ τ', ¬ f_X9_within (nI m) 0 hi τ' = 0 := fun τ' => h
      unfold p_X9_set f_X9_set g_X9_set p_X9_become f_X9_become g_X9_become
      rw [e8, f8, if_neg (hw3 _), if_neg (hw3 _), if_neg (hw3 _), hmo, if_neg (h9 _), if_neg (h9 _), if_neg (h9 _), show (3 : Int32) + nI a = nI (3 + a) from nI_add 3 a, nI_clamp (by omega), sr_ne (by decide)]
      have hv : vp_in (nI (3 + a)) 73 := vp_in_nI (by omega) (by decide)
      exact ⟨⟨⟨hv, hv, trivial⟩, trivial⟩, rfl, light_fin hI hc ha (by omega)⟩
  by_cases c0 : x1 = 0
  · exact key 0 4095 4095 (by decide) rfl (by decide) rfl c0 rfl (fun _ => rfl) rfl hl.1
  by_cases c1 : x1 = 1
  · exact key 1 23 23 (by decide) rfl (by decide) rfl c1 rfl (fun _ => rfl) rfl hl.2.1
  by_cases c2 : x1 = 2
  · exact key 2 1 1 (by decide) rfl (by decide) rfl c2 rfl (fun _ => rfl) rfl hl.2.2.1
  by_cases c3 : x1 = 3
  · exact key 3 16777215 16777215 (by decide) rfl (by decide) rfl c3 rfl (fun _ => rfl) rfl hl.2.2.2.1
  have hw : ∀ τ', f_X9_within x1 0 3 τ' = 0 := by
    intro τ'
    apply Classical.byContradiction
    intro q
    obtain ⟨j, hj, rfl⟩ := w_of (τ := τ') (n := 3) rfl (by decide) q
    rcases (show j = 0 ∨ j = 1 ∨ j = 2 ∨ j = 3 by omega) with rfl | rfl | rfl | rfl
    · exact c0 rfl
    · exact c1 rfl
    · exact c2 rfl
    · exact c3 rfl
  have hmb : f_X2_mayBecome x1 x2 τ = 0 := by unfold f_X2_mayBecome; rw [if_neg c0, if_neg c1, if_neg c2, if_neg c3]
  have e8 : g_X8_set x1 x2 τ = g_X8_found ((-1000001)) τ := by unfold g_X8_set; rw [if_pos hmb]
  have f8 : f_X8_set x1 x2 τ = (-1000001) := by unfold f_X8_set; rw [if_pos hmb]
  obtain ⟨q1, q2⟩ := fail_B hI hc
  unfold p_X9_set f_X9_set g_X9_set
  rw [e8, f8, if_pos (hw _), if_pos (hw _), if_pos (hw _)]
  exact ⟨⟨q1, trivial⟩, rfl, q2⟩
