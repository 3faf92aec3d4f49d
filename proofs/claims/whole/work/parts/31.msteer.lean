/-! ===== the reference: a ship steers ===== -/
theorem m_at' (i f : Nat) (h : 17 + 7 * i + f < 2 ^ 31) (τ : tw_T) : (f_X9_shipAt (nI i) (nI f) τ).toNatClampNeg = 17 + 7 * i + f := by rw [m_at, nI_clamp h]
theorem q_min9 {a : Nat} (h : a < 2 ^ 31) : (if nI a < nI 9999 then nI a else nI 9999) = nI (minN 9999 a) := by
  simp (disch := omega) only [nI_ltI, q_ite]
  refine congrArg nI ?_
  unfold minN
  repeat' split
  all_goals omega
theorem q_min23 {a : Nat} (h : a < 2 ^ 31) : (if nI a < nI 23 then nI a else nI 23) = nI (minN 23 a) := by
  simp (disch := omega) only [nI_ltI, q_ite]
  refine congrArg nI ?_
  unfold minN
  repeat' split
  all_goals omega
/-- the ship's new fields, by what it sees -/
def newN (e t : Nat) (s : Nat → Nat) : Nat → Nat := if e = 3 then steerN 3 s else moveN (goN s t) (steerN e s)
theorem newN_sail {s : Nat → Nat} {sh t : Nat} (h : s 4 = 0) : sailN sh t s = newN (seeN s sh t) t s := by
  unfold sailN newN
  rw [if_neg (by omega)]
theorem m_row {τ : tw_T} {r : Nat → Int32} {i : Nat} {s s' : Nat → Nat} (h : shM (τ 191) i s) (hs : ∀ f, f < 7 → r (17 + 7 * i + f) = nI (s' f)) : shM r i s' := hs
/-- the end of steers: where it goes, and whether it strands -/
theorem m_fin {τ : tw_T} {i g w v : Nat} {s u : Nat → Nat} (hi : i < 8) (h : shM (τ 191) i s) (ok : okS u) (h2 : u 2 = w) (h6 : u 6 = v) (hu : ∀ f, f ≠ 2 → f ≠ 6 → u f = s f) (hg : g < 100) :
    ∃ r, (if nI g ≤ nI 0 then tw_sr τ 191 (upd (upd (upd (τ 191) (17 + 7 * i + 2) (nI w)) (17 + 7 * i + 6) (nI v)) (17 + 7 * i + 1) (nI (toN g u))) else if nI (toN g u) = nI 0 then tw_sr τ 191 (upd (upd (upd (upd (upd (τ 191) (17 + 7 * i + 2) (nI w)) (17 + 7 * i + 6) (nI v)) (17 + 7 * i + 1) (nI 11)) (17 + 7 * i + 5) (nI (minN 9999 (s 5 + 1)))) (17 + 7 * i + 2) (nI 1 - nI w)) else if nI (toN g u) = nI 23 then tw_sr τ 191 (upd (upd (upd (upd (upd (τ 191) (17 + 7 * i + 2) (nI w)) (17 + 7 * i + 6) (nI v)) (17 + 7 * i + 1) (nI 11)) (17 + 7 * i + 5) (nI (minN 9999 (s 5 + 1)))) (17 + 7 * i + 2) (nI 1 - nI w)) else tw_sr τ 191 (upd (upd (upd (τ 191) (17 + 7 * i + 2) (nI w)) (17 + 7 * i + 6) (nI v)) (17 + 7 * i + 1) (nI (toN g u)))) = tw_sr τ 191 r ∧
      shM r i (moveN g u) ∧ ∀ j, (j < 17 + 7 * i ∨ 24 + 7 * i ≤ j) → r j = τ 191 j := by
  have ht := toN_lt (b := g) ok.2.1
  have hw : w ≤ 1 := by have := ok.2.2.1; omega
  have hu0 := hu 0 (by decide) (by decide)
  have hu1 := hu 1 (by decide) (by decide)
  have hu3 := hu 3 (by decide) (by decide)
  have hu4 := hu 4 (by decide) (by decide)
  have hu5 := hu 5 (by decide) (by decide)
  have e0 := h 0 (by decide)
  have e3 := h 3 (by decide)
  have e4 := h 4 (by decide)
  have e5 := h 5 (by decide)
  have e0' : τ 191 (17 + 7 * i) = nI (s 0) := e0
  simp (disch := omega) only [nI_eq, nI_leI, pk_sub]
  have gone : shM (upd (upd (upd (τ 191) (17 + 7 * i + 2) (nI w)) (17 + 7 * i + 6) (nI v)) (17 + 7 * i + 1) (nI (toN g u))) i (goneN (toN g u) u) := by
    intro f hf
    rcases f7 hf with rfl | rfl | rfl | rfl | rfl | rfl | rfl <;> simp (disch := omega) only [pk_us, pk_un] <;> simp [goneN, *]
  have str : shM (upd (upd (upd (upd (upd (τ 191) (17 + 7 * i + 2) (nI w)) (17 + 7 * i + 6) (nI v)) (17 + 7 * i + 1) (nI 11)) (17 + 7 * i + 5) (nI (minN 9999 (s 5 + 1)))) (17 + 7 * i + 2) (nI (1 - w))) i (strandN u) := by
    intro f hf
    rcases f7 hf with rfl | rfl | rfl | rfl | rfl | rfl | rfl <;> simp (disch := omega) only [pk_us, pk_un] <;> simp [strandN, *]
  have go : ∀ j, (j < 17 + 7 * i ∨ 24 + 7 * i ≤ j) → (upd (upd (upd (τ 191) (17 + 7 * i + 2) (nI w)) (17 + 7 * i + 6) (nI v)) (17 + 7 * i + 1) (nI (toN g u))) j = τ 191 j := by
    intro j hj
    rw [pk_un (by omega), pk_un (by omega), pk_un (by omega)]
  have so : ∀ j, (j < 17 + 7 * i ∨ 24 + 7 * i ≤ j) → (upd (upd (upd (upd (upd (τ 191) (17 + 7 * i + 2) (nI w)) (17 + 7 * i + 6) (nI v)) (17 + 7 * i + 1) (nI 11)) (17 + 7 * i + 5) (nI (minN 9999 (s 5 + 1)))) (17 + 7 * i + 2) (nI (1 - w))) j = τ 191 j := by
    intro j hj
    rw [pk_un (by omega), pk_un (by omega), pk_un (by omega), pk_un (by omega), pk_un (by omega)]
  split
  · rw [show moveN g u = goneN (toN g u) u from if_neg (by omega)]
    exact ⟨_, rfl, gone, go⟩
  · split
    · rw [show moveN g u = strandN u from if_pos (by omega)]
      exact ⟨_, rfl, str, so⟩
    · split
      · rw [show moveN g u = strandN u from if_pos (by omega)]
        exact ⟨_, rfl, str, so⟩
      · rw [show moveN g u = goneN (toN g u) u from if_neg (by omega)]
        exact ⟨_, rfl, gone, go⟩
set_option maxHeartbeats 4000000 in
theorem m_steers {τ : tw_T} {i e t N : Nat} {s : Nat → Nat} (hi : i < 8) (h : shM (τ 191) i s) (h0' : τ 191 0 = nI t) (ok : okS s) (he : e < 4) (ht : t < 2 ^ 30) (hN : 3 ≤ N) :
    ∃ r, g_X9_steers N (nI i) (nI e) τ = tw_sr τ 191 r ∧ shM r i (newN e t s) ∧ ∀ j, (j < 17 + 7 * i ∨ 24 + 7 * i ≤ j) → r j = τ 191 j := by
  have ok' := ok
  obtain ⟨h0, h1, h2, h3, h4, h5, h6⟩ := ok
  have e0 := h 0 (by decide)
  have e1 := h 1 (by decide)
  have e2 := h 2 (by decide)
  have e3 := h 3 (by decide)
  have e4 := h 4 (by decide)
  have e5 := h 5 (by decide)
  have e6 := h 6 (by decide)
  have e0' : τ 191 (17 + 7 * i) = nI (s 0) := e0
  have hgo := goN_lt (s := s) (t := t) h3
  have hp : popN e < 4 := by unfold popN; omega
  have hbit := fun τ => (m_bits4 he hN τ).1
  have goes : ∀ r : Nat → Int32, r 0 = nI t → r (17 + 7 * i + 0) = nI (s 0) → r (17 + 7 * i + 3) = nI (s 3) → f_X9_goes (nI i) (tw_sr τ 191 r) = nI (goN s t) := by
    intro r hr0 hrk hr3
    unfold f_X9_goes
    have m1 : t % 2 < 2 := Nat.mod_lt _ (by decide)
    simp (disch := omega) only [q_0, q_1, q_2, q_3, q_4, q_5, q_6, m_is, sr_self, hr0, hrk, hr3, pk_rem, nI_eq, nI_leI, pk_mul, nI_add, pk_sub, q_ite]
    refine congrArg nI ?_
    unfold goN
    repeat' split
    all_goals omega
  have hg : ∀ W X, f_X9_goes (nI i) (tw_sr τ 191 (upd (upd (τ 191) (17 + 7 * i + 2) W) (17 + 7 * i + 6) X)) = nI (goN s t) := fun W X => goes _ (by rw [pk_un (by omega), pk_un (by omega)]; exact h0') (by rw [pk_un (by omega), pk_un (by omega)]; exact e0) (by rw [pk_un (by omega), pk_un (by omega)]; exact e3)
  have fin : ∀ g w, w < 2 → g < 100 → (steerN e s) 2 = w → _ := fun g w hw hg hw2 => m_fin (τ := τ) (i := i) (g := g) (w := w) (v := minN 9999 (s 6 + popN e)) (s := s) (u := steerN e s) hi h (okS_steer ok') hw2 rfl (fun f a b => by unfold steerN; rw [if_neg a, if_neg b]) hg
  unfold g_X9_steers
  rcases (show e = 0 ∨ e = 1 ∨ e = 2 ∨ e = 3 by omega) with rfl | rfl | rfl | rfl
  · simp (disch := omega) only [q_0, q_1, q_2, q_3, q_4, q_5, q_6, q_11, q_23, q_9999, m_at', m_is, sr_self, sr_sr, pk_us, pk_un, hbit, hg, e0, e1, e2, e3, e4, e5, e6, nI_add, nI_eq, if_true, if_false, Nat.reduceEqDiff, Nat.zero_ne_one]
    by_cases w : s 2 = 1
    · have hT : toN (goN s t) (steerN 0 s) = minN 23 (s 1 + goN s t) := by
        unfold toN
        rw [if_pos (show steerN 0 s 2 = 1 from w)]
        rfl
      have := fin (goN s t) 1 (by decide) (by omega) w
      simp (disch := omega) only [w, q_min9, q_min23, if_true]
      rw [← hT]
      exact this
    · have w0 : s 2 = 0 := by omega
      have hT : toN (goN s t) (steerN 0 s) = s 1 - goN s t := by
        unfold toN
        rw [if_neg (show ¬ steerN 0 s 2 = 1 from w)]
        rfl
      have := fin (goN s t) 0 (by decide) (by omega) w0
      simp (disch := omega) only [w0, q_min9, q_max0', if_false, Nat.zero_ne_one]
      rw [← hT]
      exact this
  · simp (disch := omega) only [q_0, q_1, q_2, q_3, q_4, q_5, q_6, q_11, q_23, q_9999, m_at', m_is, sr_self, sr_sr, pk_us, pk_un, hbit, hg, e0, e1, e2, e3, e4, e5, e6, nI_add, nI_eq, if_true, if_false, Nat.reduceEqDiff, q_min9, q_min23]
    exact fin (goN s t) 1 (by decide) (by omega) rfl
  · have n21 : (nI 2 = nI 1) = False := eq_false (by decide)
    have n23 : (nI 2 = nI 3) = False := eq_false (by decide)
    simp (disch := omega) only [q_0, q_1, q_2, q_3, q_4, q_5, q_6, q_11, q_23, q_9999, m_at', m_is, sr_self, sr_sr, pk_us, pk_un, hbit, hg, e0, e1, e2, e3, e4, e5, e6, nI_add, n21, n23, if_true, if_false, q_min9, q_max0']
    exact fin (goN s t) 0 (by decide) (by omega) rfl
  · simp (disch := omega) only [q_0, q_1, q_2, q_3, q_4, q_5, q_6, q_11, q_23, q_9999, m_at', m_is, sr_self, sr_sr, pk_us, pk_un, hbit, hg, e0, e1, e2, e3, e4, e5, e6, nI_add, nI_eq, if_true, if_false, Nat.reduceEqDiff, q_min9, q_min23, q_max0']
    have n3 : newN 3 t s = steerN 3 s := if_pos rfl
    rw [n3]
    by_cases w : s 2 = 1
    · simp only [w, if_true]
      refine ⟨_, rfl, fun f hf => ?_, fun j hj => ?_⟩
      · have m23 : minN 23 (s 1) = s 1 := by unfold minN; split <;> omega
        rcases f7 hf with rfl | rfl | rfl | rfl | rfl | rfl | rfl <;> simp (disch := omega) only [pk_us, pk_un] <;> simp [steerN, *]
      · rw [pk_un (by omega), pk_un (by omega), pk_un (by omega)]
    · have w0 : s 2 = 0 := by omega
      simp only [w0, if_false, Nat.zero_ne_one]
      refine ⟨_, rfl, fun f hf => ?_, fun j hj => ?_⟩
      · rcases f7 hf with rfl | rfl | rfl | rfl | rfl | rfl | rfl <;> simp (disch := omega) only [pk_us, pk_un] <;> simp [steerN, *]
      · rw [pk_un (by omega), pk_un (by omega), pk_un (by omega)]
