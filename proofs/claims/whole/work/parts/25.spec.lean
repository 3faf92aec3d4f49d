/-! ===== numbers as naturals ===== -/
theorem q_0 : (0 : Int32) = nI 0 := rfl
theorem q_1 : (1 : Int32) = nI 1 := rfl
theorem q_2 : (2 : Int32) = nI 2 := rfl
theorem q_3 : (3 : Int32) = nI 3 := rfl
theorem q_4 : (4 : Int32) = nI 4 := rfl
theorem q_5 : (5 : Int32) = nI 5 := rfl
theorem q_6 : (6 : Int32) = nI 6 := rfl
theorem q_7 : (7 : Int32) = nI 7 := rfl
theorem q_8 : (8 : Int32) = nI 8 := rfl
theorem q_9 : (9 : Int32) = nI 9 := rfl
theorem q_11 : (11 : Int32) = nI 11 := rfl
theorem q_12 : (12 : Int32) = nI 12 := rfl
theorem q_17 : (17 : Int32) = nI 17 := rfl
theorem q_23 : (23 : Int32) = nI 23 := rfl
theorem q_9999 : (9999 : Int32) = nI 9999 := rfl
theorem q_99999 : (99999 : Int32) = nI 99999 := rfl
theorem q_pm : (16777215 : Int32) = nI 16777215 := rfl
theorem q_pw : (16777216 : Int32) = nI 16777216 := rfl
theorem q_at (f : Nat → Int32) (k : Nat) (x : Int32) (j : Nat) : upd f k x j = if j = k then x else f j := rfl
theorem q_sl : ∀ n, n < 32 → ((nI n &&& 31).toBitVec.smod 32).toNat = n := by decide +kernel
theorem q_shr {n s : Nat} (hn : n < 2 ^ 31) (hs : s < 32) : nI n >>> (nI s &&& 31) = nI (n / 2 ^ s) := pk_shrN hn _ s (q_sl s hs)
theorem q_shl {n s : Nat} (hs : s < 32) (h : n * 2 ^ s < 2 ^ 32) : nI n <<< (nI s &&& 31) = nI (n * 2 ^ s) := pk_shlN _ s (q_sl s hs) h
theorem q_and (a b : Nat) : nI a &&& nI b = nI (a &&& b) := by
  apply Int32.toBitVec_inj.1
  show BitVec.ofNat 32 a &&& BitVec.ofNat 32 b = BitVec.ofNat 32 (a &&& b)
  apply BitVec.eq_of_getLsbD_eq
  intro i hi
  simp [hi]
theorem q_or (a b : Nat) : nI a ||| nI b = nI (a ||| b) := by
  apply Int32.toBitVec_inj.1
  show BitVec.ofNat 32 a ||| BitVec.ofNat 32 b = BitVec.ofNat 32 (a ||| b)
  apply BitVec.eq_of_getLsbD_eq
  intro i hi
  simp [hi]
theorem q_xor (a b : Nat) : nI a ^^^ nI b = nI (a ^^^ b) := by
  apply Int32.toBitVec_inj.1
  show BitVec.ofNat 32 a ^^^ BitVec.ofNat 32 b = BitVec.ofNat 32 (a ^^^ b)
  apply BitVec.eq_of_getLsbD_eq
  intro i hi
  simp [hi]
theorem q_ite {c : Prop} [Decidable c] (a b : Nat) : (if c then nI a else nI b) = nI (if c then a else b) := by split <;> rfl
theorem q_max0 {c b : Nat} (hc : c < 2 ^ 30) (hb : b < 2 ^ 30) : (if nI c - nI b < nI 0 then nI 0 else nI c - nI b) = nI (c - b) := by
  by_cases h : c < b
  · rw [if_pos (show nI c - nI b < nI 0 from pk_sneg hb h), show c - b = 0 by omega]
  · rw [pk_sub (by omega), if_neg (show ¬ nI (c - b) < nI 0 from nI_pos (by omega))]
theorem q_max0' {c b : Nat} (hc : c < 2 ^ 30) (hb : b < 2 ^ 30) : (if nI 0 < nI c - nI b then nI c - nI b else nI 0) = nI (c - b) := by
  by_cases h : b < c
  · rw [pk_sub (by omega), if_pos ((nI_ltI (by decide) (by omega)).mpr (by omega))]
  · by_cases e : c = b
    · subst e
      rw [pk_sub (by omega), show c - c = 0 by omega]
      rw [if_neg (by decide)]
    · have hn := pk_sneg hb (show c < b by omega)
      rw [if_neg (fun h2 => absurd hn (by rw [show (0 : Int32) = nI 0 from rfl]; intro h3; exact Int32.lt_irrefl (Int32.lt_trans h2 h3))), show c - b = 0 by omega]
/-! ===== the sea of naturals: what a tick does ===== -/
def nearN (c : Nat) : Nat := if 8 < c then (if 8 < 23 - c then 0 ||| 0 else 0 ||| 2) else (if 8 < 23 - c then 1 ||| 0 else 1 ||| 2)
def seeN (s : Nat → Nat) (sh t : Nat) : Nat := if t % 2 = 0 then (if s 0 = 1 then sh &&& nearN (s 1) else if s 0 = 2 then sh else if s 0 = 3 then sh else if s 0 = 4 then sh &&& 2 else if s 0 = 5 then sh ^^^ 3 else if s 0 = 6 then (if s 1 % 2 = 0 then sh else sh &&& nearN (s 1)) else sh) else (if s 0 = 1 then sh &&& nearN (s 1) else if s 0 = 2 then 0 else if s 0 = 3 then (if 1 < s 3 then 0 else sh) else if s 0 = 4 then sh &&& 2 else if s 0 = 5 then sh ^^^ 3 else if s 0 = 6 then (if s 1 % 2 = 0 then sh else sh &&& nearN (s 1)) else sh)
def goN (s : Nat → Nat) (t : Nat) : Nat := if s 0 = 1 then (if s 3 = 0 then 0 else 1) else if s 0 = 2 then s 3 + 1 else if s 0 = 3 then s 3 + 1 - t % 2 else if s 0 = 4 then s 3 + 3 - t % 2 else if s 0 = 6 then (if s 3 = 0 then 0 else 2) else s 3
def popN (e : Nat) : Nat := e % 2 + e / 2
def minN (a b : Nat) : Nat := if a < b then a else b
def toN (b : Nat) (s : Nat → Nat) : Nat := if s 2 = 1 then minN 23 (s 1 + b) else s 1 - b
def strandN (s : Nat → Nat) : Nat → Nat := fun f => if f = 1 then 11 else if f = 2 then 1 - s 2 else if f = 5 then minN 9999 (s 5 + 1) else s f
def goneN (c : Nat) (s : Nat → Nat) : Nat → Nat := fun f => if f = 1 then c else s f
def moveN (b : Nat) (s : Nat → Nat) : Nat → Nat := if 0 < b ∧ (toN b s = 0 ∨ toN b s = 23) then strandN s else goneN (toN b s) s
def steerN (e : Nat) (s : Nat → Nat) : Nat → Nat := fun f => if f = 2 then (if e = 1 then 1 else if e = 2 then 0 else s 2) else if f = 6 then minN 9999 (s 6 + popN e) else s f
def sailN (sh t : Nat) (s : Nat → Nat) : Nat → Nat := if s 4 = 1 then s else if seeN s sh t = 3 then steerN 3 s else moveN (goN s t) (steerN (seeN s sh t) s)
def okS (s : Nat → Nat) : Prop := s 0 < 7 ∧ s 1 < 24 ∧ s 2 < 2 ∧ s 3 < 6 ∧ s 4 < 2 ∧ s 5 < 10000 ∧ s 6 < 10000
theorem seeN_lt {s : Nat → Nat} {sh t : Nat} (h : sh < 4) : seeN s sh t < 4 := by
  have h1 : ∀ m, sh &&& m < 4 := fun m => Nat.lt_of_le_of_lt Nat.and_le_left h
  have h2 : sh ^^^ 3 < 4 := by
    have : ∀ x, x < 4 → x ^^^ 3 < 4 := by decide
    exact this sh h
  unfold seeN
  repeat' split
  all_goals first | exact h1 _ | exact h2 | exact h | decide
theorem goN_lt {s : Nat → Nat} {t : Nat} (h : s 3 < 6) : goN s t < 9 := by
  unfold goN
  repeat' split
  all_goals omega
theorem minN_le (a b : Nat) : minN a b ≤ a := by unfold minN; split <;> omega
theorem okS_steer {s : Nat → Nat} {e : Nat} (h : okS s) : okS (steerN e s) := by
  obtain ⟨h0, h1, h2, h3, h4, h5, h6⟩ := h
  have := minN_le 9999 (s 6 + popN e)
  refine ⟨h0, h1, ?_, h3, h4, h5, ?_⟩
  · show (if e = 1 then 1 else if e = 2 then 0 else s 2) < 2
    split; · omega
    split <;> omega
  · show minN 9999 (s 6 + popN e) < 10000
    omega
theorem okS_move {s : Nat → Nat} {b : Nat} (h : okS s) : okS (moveN b s) := by
  obtain ⟨h0, h1, h2, h3, h4, h5, h6⟩ := h
  have m1 := minN_le 23 (s 1 + b)
  have m2 := minN_le 9999 (s 5 + 1)
  have ht : toN b s < 24 := by unfold toN; split <;> omega
  unfold moveN
  split
  · refine ⟨h0, (by decide : (11 : Nat) < 24), ?_, h3, h4, ?_, h6⟩
    · show 1 - s 2 < 2
      omega
    · show minN 9999 (s 5 + 1) < 10000
      omega
  · exact ⟨h0, ht, h2, h3, h4, h5, h6⟩
theorem okS_sail {s : Nat → Nat} {sh t : Nat} (h : okS s) : okS (sailN sh t s) := by
  unfold sailN
  split
  · exact h
  · split
    · exact okS_steer h
    · exact okS_move (okS_steer h)
theorem moveN_port {s : Nat → Nat} {b : Nat} : moveN b s 4 = s 4 := by
  unfold moveN
  split <;> rfl
theorem sailN_port {s : Nat → Nat} {sh t : Nat} : sailN sh t s 4 = s 4 := by
  unfold sailN
  split
  · rfl
  · split
    · rfl
    · rw [moveN_port]; rfl
