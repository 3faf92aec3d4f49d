/-! ===== a ship sails; the lights of naturals ===== -/
theorem c_sail {τ : tw_T} {k sh t : Nat} {s : Nat → Nat} (h : shR (τ k) s) (ok : okS s) (hs : sh < 4) (ht : t < 2 ^ 30) : ∃ r, g_X6_sail k (nI sh) (nI t) τ = tw_sr τ k r ∧ shR r (sailN sh t s) := by
  have hsee := c_seen h ok hs (show t < 2 ^ 31 by omega)
  have hl := seeN_lt (s := s) (t := t) hs
  have hgo := goN_lt (s := s) (t := t) ok.2.2.2.1
  have e2 := h 2 (by decide)
  have e4 := h 4 (by decide)
  have e6 := h 6 (by decide)
  have b6 : s 6 < 10000 := ok.2.2.2.2.2.2
  have b4 : s 4 < 2 := ok.2.2.2.2.1
  by_cases hp : s 4 = 1
  · refine ⟨τ k, ?_, ?_⟩
    · unfold g_X6_sail
      rw [e4, hp, if_pos (show nI 1 = (1 : Int32) from rfl), sr_id]
    · unfold sailN
      rw [if_pos hp]
      exact h
  · have hp0 : s 4 = 0 := by omega
    unfold g_X6_sail sailN
    rw [if_neg hp, e4, hp0, if_neg (show ¬ nI 0 = (1 : Int32) from by decide)]
    simp only [hsee]
    generalize hE : seeN s sh t = E at *
    have hbit := fun τ => c_bit (e := E) hl τ
    have x6 : (if nI 9999 < nI (s 6 + popN E) then nI 9999 else nI (s 6 + popN E)) = nI (minN 9999 (s 6 + popN E)) := by
      have : popN E < 4 := by unfold popN; omega
      simp (disch := omega) only [nI_ltI, q_ite]
      rfl
    have key : ∀ r : Nat → Int32, shR r (steerN E s) → ∃ r', g_X6_move k (f_X6_cellsToGo k (nI t) (tw_sr τ k r)) (tw_sr τ k r) = tw_sr τ k r' ∧ shR r' (moveN (goN s t) (steerN E s)) := by
      intro r hr
      have hr' : shR ((tw_sr τ k r) k) (steerN E s) := by rw [sr_self]; exact hr
      have hg : goN (steerN E s) t = goN s t := rfl
      rw [c_goes hr' (okS_steer ok) (by omega), hg]
      obtain ⟨r', h1, h2⟩ := c_move (b := goN s t) hr' (okS_steer ok) (by omega)
      exact ⟨r', by rw [h1, sr_sr], h2⟩
    have hE4 : E = 0 ∨ E = 1 ∨ E = 2 ∨ E = 3 := by omega
    rcases hE4 with rfl | rfl | rfl | rfl
    · simp (disch := omega) only [sr_self, sr_sr, pk_us, pk_un, hbit, e6, q_1, q_2, q_3, q_9999, nI_add, x6, nI_eq, if_true, if_false, Nat.reduceEqDiff]
      refine key _ fun f hf => ?_
      rcases f7 hf with rfl | rfl | rfl | rfl | rfl | rfl | rfl <;> simp [upd, steerN, h _ hf]
    · simp (disch := omega) only [sr_self, sr_sr, pk_us, pk_un, hbit, e6, q_1, q_2, q_3, q_9999, nI_add, x6, nI_eq, if_true, if_false, Nat.reduceEqDiff]
      refine key _ fun f hf => ?_
      rcases f7 hf with rfl | rfl | rfl | rfl | rfl | rfl | rfl <;> simp [upd, steerN, h _ hf]
    · simp (disch := omega) only [sr_self, sr_sr, pk_us, pk_un, hbit, e6, q_0, q_1, q_2, q_3, q_9999, nI_add, x6, nI_eq, if_true, if_false, Nat.reduceEqDiff]
      refine key _ fun f hf => ?_
      rcases f7 hf with rfl | rfl | rfl | rfl | rfl | rfl | rfl <;> simp [upd, steerN, h _ hf]
    · simp (disch := omega) only [sr_self, sr_sr, pk_us, pk_un, hbit, e6, q_1, q_2, q_3, q_9999, nI_add, x6, nI_eq, if_true, if_false, Nat.reduceEqDiff]
      refine ⟨_, rfl, fun f hf => ?_⟩
      rcases f7 hf with rfl | rfl | rfl | rfl | rfl | rfl | rfl <;> simp [upd, steerN, h _ hf]
/-- what THE FIRST shows of a pattern on a tick -/
def fstN (p t : Nat) : Nat := p / 2 ^ (t % 12) % 2
def pastN (M : Nat → Nat) : Nat := (M 6 * 2 + fstN (M 3) (M 0)) % 16777216
def sndN (M : Nat → Nat) : Nat := if M 5 = 1 then pastN M / 2 ^ (M 4) % 2 else fstN (M 3) (M 0)
def shN (M : Nat → Nat) : Nat := fstN (M 3) (M 0) + 2 * sndN M
def shipN (M : Nat → Nat) (i : Nat) : Nat → Nat := fun f => M (17 + 7 * i + f)
def tickN (M : Nat → Nat) : Nat → Nat := fun j => if j = 0 then M 0 + 1 else if j = 6 then pastN M else if 17 ≤ j ∧ j < 17 + 7 * M 1 then sailN (shN M) (M 0) (shipN M ((j - 17) / 7)) ((j - 17) % 7) else M j
def tk (M : Nat → Nat) : Nat → Nat → Nat
  | 0 => M
  | n + 1 => tickN (tk M n)
theorem fstN_lt (p t : Nat) : fstN p t < 2 := Nat.mod_lt _ (by decide)
theorem sndN_lt (M : Nat → Nat) : sndN M < 2 := by
  unfold sndN
  split
  · exact Nat.mod_lt _ (by decide)
  · exact fstN_lt _ _
theorem shN_lt (M : Nat → Nat) : shN M < 4 := by
  have h1 := fstN_lt (M 3) (M 0)
  have h2 := sndN_lt M
  unfold shN
  omega
theorem tickN_0 (M : Nat → Nat) : tickN M 0 = M 0 + 1 := rfl
theorem tickN_6 (M : Nat → Nat) : tickN M 6 = pastN M := rfl
theorem tickN_lo (M : Nat → Nat) {j : Nat} (h0 : j ≠ 0) (h6 : j ≠ 6) (h : j < 17) : tickN M j = M j := by
  unfold tickN
  rw [if_neg h0, if_neg h6, if_neg (by omega)]
theorem tickN_hi (M : Nat → Nat) {j : Nat} (h : 17 + 7 * M 1 ≤ j) : tickN M j = M j := by
  unfold tickN
  rw [if_neg (by omega), if_neg (by omega), if_neg (by omega)]
theorem tickN_ship (M : Nat → Nat) {i f : Nat} (hi : i < M 1) (hf : f < 7) : tickN M (17 + 7 * i + f) = sailN (shN M) (M 0) (shipN M i) f := by
  unfold tickN
  rw [if_neg (by omega), if_neg (by omega), if_pos (by omega), show (17 + 7 * i + f - 17) / 7 = i by omega, show (17 + 7 * i + f - 17) % 7 = f by omega]
theorem tk_0 (M : Nat → Nat) (n : Nat) : tk M n 0 = M 0 + n := by
  induction n with
  | zero => rfl
  | succ n ih => show tickN (tk M n) 0 = _; rw [tickN_0, ih]; omega
theorem tk_lo (M : Nat → Nat) (n : Nat) {j : Nat} (h0 : j ≠ 0) (h6 : j ≠ 6) (h : j < 17) : tk M n j = M j := by
  induction n with
  | zero => rfl
  | succ n ih => show tickN (tk M n) j = _; rw [tickN_lo _ h0 h6 h, ih]
theorem tk_succ (M : Nat → Nat) (n : Nat) : tk M (n + 1) = tk (tickN M) n := by
  induction n with
  | zero => rfl
  | succ n ih => show tickN (tk M (n + 1)) = tickN (tk (tickN M) n); rw [ih]
/-- the past, bit by bit -/
theorem past_bit (M : Nat → Nat) (n : Nat) (h6 : M 6 < 16777216) : tk M n 6 < 16777216 ∧ ∀ j, j < 24 → tk M n 6 / 2 ^ j % 2 = if j < n then fstN (M 3) (M 0 + (n - 1 - j)) else M 6 / 2 ^ (j - n) % 2 := by
  induction n with
  | zero => exact ⟨h6, fun j hj => by simp [tk]⟩
  | succ n ih =>
    obtain ⟨h1, h2⟩ := ih
    have e : tk M (n + 1) 6 = (tk M n 6 * 2 + fstN (M 3) (M 0 + n)) % 16777216 := by
      show tickN (tk M n) 6 = _
      rw [tickN_6]
      unfold pastN
      rw [tk_0, tk_lo M n (j := 3) (by decide) (by decide) (by decide)]
    refine ⟨by rw [e]; exact Nat.mod_lt _ (by decide), fun j hj => ?_⟩
    rw [e]
    have hb := fstN_lt (M 3) (M 0 + n)
    generalize hB : fstN (M 3) (M 0 + n) = B at *
    rcases Nat.eq_zero_or_pos j with rfl | hj0
    · rw [if_pos (by omega), show n + 1 - 1 - 0 = n by omega, hB]
      omega
    · obtain ⟨i, rfl⟩ : ∃ i, j = i + 1 := ⟨j - 1, by omega⟩
      have hi := h2 i (by omega)
      have e2 : (tk M n 6 * 2 + B) % 16777216 / 2 ^ (i + 1) % 2 = tk M n 6 / 2 ^ i % 2 := by
        have p1 : (16777216 : Nat) = 2 ^ (i + 1) * 2 ^ (24 - (i + 1)) := by rw [← Nat.pow_add, show i + 1 + (24 - (i + 1)) = 24 by omega]
        have p2 : (2 : Nat) ^ (24 - (i + 1)) = 2 * 2 ^ (22 - i) := by rw [show 24 - (i + 1) = (22 - i) + 1 by omega, Nat.pow_succ, Nat.mul_comm]
        rw [p1, Nat.mod_mul_right_div_self, p2, Nat.mod_mul_right_mod, Nat.pow_succ, Nat.mul_comm (2 ^ i) 2, ← Nat.div_div_eq_div_mul, show (tk M n 6 * 2 + B) / 2 = tk M n 6 by omega]
      rw [e2, hi]
      by_cases c : i < n
      · rw [if_pos c, if_pos (by omega), show n + 1 - 1 - (i + 1) = n - 1 - i by omega]
      · rw [if_neg c, if_neg (by omega), show i + 1 - (n + 1) = i - n by omega]
/-- what the lights show n ticks on, told by what they are now -/
def secA (M : Nat → Nat) (n : Nat) : Nat := if M 5 = 1 then (if M 4 ≤ n then fstN (M 3) (M 0 + (n - M 4)) else M 6 / 2 ^ (M 4 - n - 1) % 2) else fstN (M 3) (M 0 + n)
theorem sndN_tk (M : Nat → Nat) (n : Nat) (h6 : M 6 < 16777216) (h4 : M 4 < 24) : sndN (tk M n) = secA M n := by
  unfold sndN secA
  rw [tk_lo M n (j := 5) (by decide) (by decide) (by decide), tk_lo M n (j := 4) (by decide) (by decide) (by decide), tk_lo M n (j := 3) (by decide) (by decide) (by decide), tk_0]
  by_cases c : M 5 = 1
  · rw [if_pos c, if_pos c]
    have e : pastN (tk M n) = tk M (n + 1) 6 := rfl
    rw [e, (past_bit M (n + 1) h6).2 _ h4]
    by_cases d : M 4 ≤ n
    · rw [if_pos d, if_pos (by omega), show n + 1 - 1 - M 4 = n - M 4 by omega]
    · rw [if_neg d, if_neg (by omega), show M 4 - (n + 1) = M 4 - n - 1 by omega]
  · rw [if_neg c, if_neg c]
theorem shN_tk (M : Nat → Nat) (n : Nat) (h6 : M 6 < 16777216) (h4 : M 4 < 24) : shN (tk M n) = fstN (M 3) (M 0 + n) + 2 * secA M n := by
  unfold shN
  rw [sndN_tk M n h6 h4, tk_lo M n (j := 3) (by decide) (by decide) (by decide), tk_0]
