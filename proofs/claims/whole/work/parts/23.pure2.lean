/-! ===== pure: one place of a sea changes ===== -/
theorem upd_self {f : Nat → Int32} {k : Nat} {x : Int32} : upd f k x k = x := by simp [upd]
theorem upd_ne {f : Nat → Int32} {k j : Nat} {x : Int32} (h : j ≠ k) : upd f k x j = f j := by simp [upd, h]
def mU (M : Nat → Nat) (j m : Nat) : Nat → Nat := fun q => if q = j then m else M q
theorem mU_self {M : Nat → Nat} {j m : Nat} : mU M j m j = m := by simp [mU]
theorem mU_ne {M : Nat → Nat} {j m q : Nat} (h : q ≠ j) : mU M j m q = M q := by simp [mU, h]
theorem bd_small (j : Nat) : bd j ≤ 16777216 := by
  unfold bd
  split; · omega
  split; · omega
  split; · omega
  split; · omega
  unfold bdS
  have h : ∀ f, f < 7 → ([7, 24, 2, 6, 2, 10000, 10000] : List Nat).getD f 0 ≤ 16777216 := by decide
  exact h _ (Nat.mod_lt _ (by decide))
theorem rng_upd {c : Nat} {N : Nat → Int32} {j m : Nat} (h : rng c N) (h3 : 3 ≤ j) (h7 : j < 73) (hj : j < 7 ∨ 17 ≤ j) (hm : m < bd j) : rng c (upd N j (nI m)) := by
  obtain ⟨M, ⟨a, b, d⟩, e, f, g⟩ := h
  refine ⟨mU M j m, ⟨?_, ?_, ?_⟩, ?_, ?_, ?_⟩
  · rw [mU_ne (by omega)]; exact a
  · rw [mU_ne (by omega)]; exact b
  · intro q h1 h2 h3
    by_cases hq : q = j
    · rw [hq, mU_self]; exact hm
    · rw [mU_ne hq]; exact d q h1 h2 h3
  · intro q h1 h2
    by_cases hq : q = j
    · rw [hq, mU_self, upd_self]
    · rw [mU_ne hq, upd_ne hq]; exact e q h1 h2
  · intro q h1 h2
    by_cases hq : q = j
    · rw [hq, mU_self, upd_self]
    · rw [mU_ne hq, upd_ne hq]; exact f q h1 h2
  · intro i hi
    rw [upd_ne (by omega), mU_ne (by omega)]
    exact g i hi
theorem rng_z {c : Nat} {N : Nat → Int32} {v : Int32} (h : rng c N) : rng c (upd N 2 v) := by
  obtain ⟨M, a, e, f, g⟩ := h
  refine ⟨M, a, fun q h1 h2 => by rw [upd_ne h2]; exact e q h1 h2, fun q h1 h2 => by rw [upd_ne (by omega)]; exact f q h1 h2, fun i hi => by rw [upd_ne (by omega)]; exact g i hi⟩
theorem rng_spot {c i0 : Nat} {N : Nat → Int32} {v : Int32} (h : rng c N) (h0 : i0 < 10) (hv : v = -1 ∨ ∃ k, nI k < N 1 ∧ k < 8 ∧ v = nI k) : rng c (upd N (7 + i0) v) := by
  obtain ⟨M, ⟨a, b, d⟩, e, f, g⟩ := h
  refine ⟨M, ⟨a, b, d⟩, fun q h1 h2 => by rw [upd_ne (by omega)]; exact e q h1 h2, fun q h1 h2 => by rw [upd_ne (by omega)]; exact f q h1 h2, fun i hi => ?_⟩
  by_cases hq : i = i0
  · subst hq
    rw [upd_self]
    rcases hv with hv | ⟨k, h1, h2, h3⟩
    · exact Or.inl hv
    · refine Or.inr ⟨k, ?_, h3⟩
      rw [e 1 (by omega) (by omega), nI_ltI (by omega) (by omega)] at h1
      exact h1
  · rw [upd_ne (by omega)]
    exact g i hi
def plL (a : Nat) : Nat := ([3, 4, 5, 6, 0] : List Nat).getD a 0
theorem plL_all : ∀ a, a < 5 → plL a < 7 ∧ plL a ≠ 1 ∧ plL a ≠ 2 ∧ ∀ q, q < 5 → plL q = plL a → q = a := by decide
theorem seaR_light {τ : tw_T} {b : Nat} {N : Nat → Int32} {a : Nat} {v : Int32} (h : seaR τ b N) (ha : a < 5) : seaR (tw_sr τ (b + 1) (upd (τ (b + 1)) a v)) b (upd N (plL a) v) := by
  obtain ⟨⟨a0, a1, a2, a3, a4⟩, h2, h3, h4, h5⟩ := h
  obtain ⟨p1, p2, p3, p4⟩ := plL_all a ha
  have key : ∀ q, q < 5 → τ (b + 1) q = N (plL q) → upd (τ (b + 1)) a v q = upd N (plL a) v (plL q) := by
    intro q hq e
    by_cases hqa : q = a
    · subst hqa; rw [upd_self, upd_self]
    · rw [upd_ne hqa, upd_ne (fun z => hqa (p4 q hq z))]; exact e
  refine ⟨?_, ?_, ?_, fun i hi => ?_, fun i hi hn f hf => ?_⟩
  · rw [sr_self]
    exact ⟨key 0 (by omega) a0, key 1 (by omega) a1, key 2 (by omega) a2, key 3 (by omega) a3, key 4 (by omega) a4⟩
  · rw [sr_ne (by omega), upd_ne (fun z => p2 z.symm)]; exact h2
  · rw [sr_ne (by omega), upd_ne (fun z => p3 z.symm)]; exact h3
  · rw [sr_ne (by omega), upd_ne (by omega)]; exact h4 i hi
  · rw [upd_ne (fun z => p2 z.symm)] at hn
    rw [sr_ne (by omega), upd_ne (by omega)]; exact h5 i hi hn f hf
theorem seaR_z {τ : tw_T} {b : Nat} {N : Nat → Int32} {v : Int32} (h : seaR τ b N) : seaR (tw_sr τ b (upd (τ b) 3 v)) b (upd N 2 v) := by
  obtain ⟨h1, h2, h3, h4, h5⟩ := h
  refine ⟨?_, ?_, ?_, fun i hi => ?_, fun i hi hn f hf => ?_⟩
  · rw [sr_ne (by omega)]; simpa [upd] using h1
  · rw [sr_ne (by omega), upd_ne (by omega)]; exact h2
  · rw [sr_self, upd_self, upd_self]
  · rw [sr_ne (by omega), upd_ne (by omega)]; exact h4 i hi
  · rw [upd_ne (by omega)] at hn
    rw [sr_ne (by omega), upd_ne (by omega)]; exact h5 i hi hn f hf
theorem seaR_spot {τ : tw_T} {b i0 : Nat} {N : Nat → Int32} {v : Int32} (h : seaR τ b N) (h0 : i0 < 10) : seaR (tw_sr τ (b + 12) (upd (τ (b + 12)) i0 v)) b (upd N (7 + i0) v) := by
  obtain ⟨h1, h2, h3, h4, h5⟩ := h
  refine ⟨?_, ?_, ?_, fun i hi => ?_, fun i hi hn f hf => ?_⟩
  · rw [sr_ne (by omega), upd_ne (by omega), upd_ne (by omega), upd_ne (by omega), upd_ne (by omega), upd_ne (by omega)]; exact h1
  · rw [sr_ne (by omega), upd_ne (by omega)]; exact h2
  · rw [sr_ne (by omega), upd_ne (by omega)]; exact h3
  · rw [sr_self]
    by_cases e : i = i0
    · subst e; rw [upd_self, upd_self]
    · rw [upd_ne e, upd_ne (by omega)]; exact h4 i hi
  · rw [upd_ne (by omega)] at hn
    rw [sr_ne (by omega), upd_ne (by omega)]; exact h5 i hi hn f hf
theorem seaR_ship {τ : tw_T} {b i0 f0 : Nat} {N : Nat → Int32} {v : Int32} (h : seaR τ b N) (h0 : i0 < 8) (hf0 : f0 < 7) : seaR (tw_sr τ (b + 4 + i0) (upd (τ (b + 4 + i0)) f0 v)) b (upd N (17 + 7 * i0 + f0) v) := by
  obtain ⟨h1, h2, h3, h4, h5⟩ := h
  refine ⟨?_, ?_, ?_, fun i hi => ?_, fun i hi hn f hf => ?_⟩
  · rw [sr_ne (by omega), upd_ne (by omega), upd_ne (by omega), upd_ne (by omega), upd_ne (by omega), upd_ne (by omega)]; exact h1
  · rw [sr_ne (by omega), upd_ne (by omega)]; exact h2
  · rw [sr_ne (by omega), upd_ne (by omega)]; exact h3
  · rw [sr_ne (by omega), upd_ne (by omega)]; exact h4 i hi
  · rw [upd_ne (by omega)] at hn
    by_cases e : i = i0
    · subst e
      rw [sr_self]
      by_cases e2 : f = f0
      · subst e2; rw [upd_self, upd_self]
      · rw [upd_ne e2, upd_ne (by omega)]; exact h5 i hi hn f hf
    · rw [sr_ne (by omega), upd_ne (by omega)]; exact h5 i hi hn f hf
