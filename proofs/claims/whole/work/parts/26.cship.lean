/-! ===== the class's ship and lights, as naturals ===== -/
def shR (r : Nat → Int32) (s : Nat → Nat) : Prop := ∀ f, f < 7 → r f = nI (s f)
theorem c_near {τ : tw_T} {k : Nat} {s : Nat → Nat} (h : shR (τ k) s) (ok : okS s) : f_X6_lightsNear k τ = nI (nearN (s 1)) := by
  obtain ⟨h0, h1, h2, h3, h4, h5, h6⟩ := ok
  unfold f_X6_lightsNear nearN
  rw [h 1 (by decide)]
  simp (disch := omega) only [q_0, q_1, q_2, q_8, q_23, pk_sub, nI_ltI, q_or, q_ite]
theorem c_seen {τ : tw_T} {k sh t : Nat} {s : Nat → Nat} (h : shR (τ k) s) (ok : okS s) (hs : sh < 4) (ht : t < 2 ^ 31) : f_X6_seen k (nI sh) (nI t) τ = nI (seeN s sh t) := by
  have hn := c_near h ok
  obtain ⟨h0, h1, h2, h3, h4, h5, h6⟩ := ok
  unfold f_X6_seen seeN
  rw [hn, h 0 (by decide), h 1 (by decide), h 3 (by decide)]
  have m1 : t % 2 < 2 := Nat.mod_lt _ (by decide)
  have m2 : s 1 % 2 < 2 := Nat.mod_lt _ (by decide)
  simp (disch := omega) only [q_0, q_1, q_2, q_3, q_4, q_5, q_6, pk_rem, nI_eq, nI_ltI, q_and, q_xor, q_ite]
theorem c_goes {τ : tw_T} {k t : Nat} {s : Nat → Nat} (h : shR (τ k) s) (ok : okS s) (ht : t < 2 ^ 31) : f_X6_cellsToGo k (nI t) τ = nI (goN s t) := by
  obtain ⟨h0, h1, h2, h3, h4, h5, h6⟩ := ok
  unfold f_X6_cellsToGo
  rw [h 0 (by decide), h 3 (by decide)]
  have m1 : t % 2 < 2 := Nat.mod_lt _ (by decide)
  simp (disch := omega) only [q_0, q_1, q_2, q_3, q_4, q_5, q_6, pk_rem, nI_eq, nI_leI, pk_mul, nI_add, q_ite]
  refine congrArg nI ?_
  unfold goN
  repeat' split
  all_goals omega
theorem c_bit {e : Nat} (he : e < 4) (τ : tw_T) : f_J6_bitCount_0f7a4 (nI e) τ = nI (popN e) := by
  have h : ∀ e, e < 4 → f_J6_bitCount_0f7a4 (nI e) (fun _ _ => 0) = nI (popN e) := by decide +kernel
  exact h e he
theorem toN_lt {s : Nat → Nat} {b : Nat} (h : s 1 < 24) : toN b s < 24 := by
  have m1 := minN_le 23 (s 1 + b)
  unfold toN
  split <;> omega
theorem f7 {f : Nat} (h : f < 7) : f = 0 ∨ f = 1 ∨ f = 2 ∨ f = 3 ∨ f = 4 ∨ f = 5 ∨ f = 6 := by omega
theorem c_move {τ : tw_T} {k b : Nat} {s : Nat → Nat} (h : shR (τ k) s) (ok : okS s) (hb : b < 100) : ∃ r, g_X6_move k (nI b) τ = tw_sr τ k r ∧ shR r (moveN b s) := by
  obtain ⟨h0, h1, h2, h3, h4, h5, h6⟩ := ok
  have e0 := h 0 (by decide)
  have e1 := h 1 (by decide)
  have e2 := h 2 (by decide)
  have e3 := h 3 (by decide)
  have e4 := h 4 (by decide)
  have e5 := h 5 (by decide)
  have e6 := h 6 (by decide)
  have ht := toN_lt (b := b) h1
  have x5 : (if nI 9999 < nI (s 5 + 1) then nI 9999 else nI (s 5 + 1)) = nI (minN 9999 (s 5 + 1)) := by
    simp (disch := omega) only [nI_ltI, q_ite]
    rfl
  unfold g_X6_move
  by_cases w : s 2 = 1
  · have x1 : (if nI 23 < nI (s 1 + b) then nI 23 else nI (s 1 + b)) = nI (toN b s) := by
      simp (disch := omega) only [nI_ltI, q_ite]
      unfold toN
      rw [if_pos w]
      rfl
    simp (disch := omega) only [sr_self, sr_sr, pk_us, pk_un, e1, e2, e5, w, q_0, q_1, q_11, q_23, q_9999, nI_add, x1, x5, nI_eq, nI_leI, if_true, pk_sub]
    split
    · rw [show moveN b s = goneN (toN b s) s from if_neg (by omega)]
      refine ⟨_, rfl, fun f hf => ?_⟩
      rcases f7 hf with rfl | rfl | rfl | rfl | rfl | rfl | rfl <;> simp [upd, goneN, *]
    · split
      · rw [show moveN b s = strandN s from if_pos (by omega)]
        refine ⟨_, rfl, fun f hf => ?_⟩
        rcases f7 hf with rfl | rfl | rfl | rfl | rfl | rfl | rfl <;> simp [upd, strandN, *]
      · split
        · rw [show moveN b s = strandN s from if_pos (by omega)]
          refine ⟨_, rfl, fun f hf => ?_⟩
          rcases f7 hf with rfl | rfl | rfl | rfl | rfl | rfl | rfl <;> simp [upd, strandN, *]
        · rw [show moveN b s = goneN (toN b s) s from if_neg (by omega)]
          refine ⟨_, rfl, fun f hf => ?_⟩
          rcases f7 hf with rfl | rfl | rfl | rfl | rfl | rfl | rfl <;> simp [upd, goneN, *]
  · have w0 : s 2 = 0 := by omega
    have x1 : (if nI (s 1) - nI b < nI 0 then nI 0 else nI (s 1) - nI b) = nI (toN b s) := by
      rw [q_max0 (by omega) (by omega)]
      unfold toN
      rw [if_neg w]
    simp (disch := omega) only [sr_self, sr_sr, pk_us, pk_un, e1, e2, e5, w0, q_0, q_1, q_11, q_23, q_9999, nI_add, x1, x5, nI_eq, nI_leI, if_false, pk_sub, Nat.zero_ne_one]
    split
    · rw [show moveN b s = goneN (toN b s) s from if_neg (by omega)]
      refine ⟨_, rfl, fun f hf => ?_⟩
      rcases f7 hf with rfl | rfl | rfl | rfl | rfl | rfl | rfl <;> simp [upd, goneN, *]
    · split
      · rw [show moveN b s = strandN s from if_pos (by omega)]
        refine ⟨_, rfl, fun f hf => ?_⟩
        rcases f7 hf with rfl | rfl | rfl | rfl | rfl | rfl | rfl <;> simp [upd, strandN, *]
      · split
        · rw [show moveN b s = strandN s from if_pos (by omega)]
          refine ⟨_, rfl, fun f hf => ?_⟩
          rcases f7 hf with rfl | rfl | rfl | rfl | rfl | rfl | rfl <;> simp [upd, strandN, *]
        · rw [show moveN b s = goneN (toN b s) s from if_neg (by omega)]
          refine ⟨_, rfl, fun f hf => ?_⟩
          rcases f7 hf with rfl | rfl | rfl | rfl | rfl | rfl | rfl <;> simp [upd, goneN, *]
