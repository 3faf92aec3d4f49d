/-! ===== the calls: fits, pattern ===== -/
def satB (p lit dark : Nat) : Bool := (p &&& lit == lit) && (p &&& dark == 0)
theorem half_eq {x y : Nat} : x = y ↔ x % 2 = y % 2 ∧ x / 2 = y / 2 := by omega
theorem and_half (a b : Nat) : (a &&& b) / 2 = a / 2 &&& b / 2 := by
  have := Nat.and_div_two_pow (a := a) (b := b) (n := 1)
  simpa using this
theorem and_mod (a b : Nat) : (a &&& b) % 2 = a % 2 &&& b % 2 := by
  have := Nat.and_mod_two_pow (a := a) (b := b) (n := 1)
  simpa using this
theorem or_half (a b : Nat) : (a ||| b) / 2 = a / 2 ||| b / 2 := by
  have := Nat.or_div_two_pow (a := a) (b := b) (n := 1)
  simpa using this
theorem or_mod (a b : Nat) : (a ||| b) % 2 = a % 2 ||| b % 2 := by
  have := Nat.or_mod_two_pow (a := a) (b := b) (n := 1)
  simpa using this
theorem satB_step (q b lit dark : Nat) (hb : b < 2) : satB (2 * q + b) lit dark = (satB b (lit % 2) (dark % 2) && satB q (lit / 2) (dark / 2)) := by
  have e1 : (2 * q + b) % 2 = b := by omega
  have e2 : (2 * q + b) / 2 = q := by omega
  unfold satB
  have h1 : ((2 * q + b) &&& lit == lit) = ((b &&& lit % 2 == lit % 2) && (q &&& lit / 2 == lit / 2)) := by
    rw [Bool.eq_iff_iff]
    simp only [beq_iff_eq, Bool.and_eq_true]
    rw [half_eq, and_mod, and_half, e1, e2]
  have h2 : ((2 * q + b) &&& dark == 0) = ((b &&& dark % 2 == 0) && (q &&& dark / 2 == 0)) := by
    rw [Bool.eq_iff_iff]
    simp only [beq_iff_eq, Bool.and_eq_true]
    rw [half_eq, and_mod, and_half, e1, e2]
  rw [h1, h2]
  cases (b &&& lit % 2 == lit % 2) <;> cases (q &&& lit / 2 == lit / 2) <;> cases (b &&& dark % 2 == 0) <;> cases (q &&& dark / 2 == 0) <;> rfl
def cntP (P : Nat → Bool) : Nat → Nat
  | 0 => 0
  | n + 1 => cntP P n + (if P n then 1 else 0)
theorem cntP_cong {P Q : Nat → Bool} : ∀ n, (∀ k, k < n → P k = Q k) → cntP P n = cntP Q n
  | 0, _ => rfl
  | n + 1, h => by
    show cntP P n + _ = cntP Q n + _
    rw [cntP_cong n (fun k hk => h k (by omega)), h n (by omega)]
theorem cntP_false : ∀ n, cntP (fun _ => false) n = 0
  | 0 => rfl
  | n + 1 => by show cntP (fun _ => false) n + 0 = 0; rw [cntP_false n]
theorem cntP_le (P : Nat → Bool) : ∀ n, cntP P n ≤ n
  | 0 => Nat.le_refl 0
  | n + 1 => by
    have := cntP_le P n
    show cntP P n + (if P n then 1 else 0) ≤ n + 1
    split <;> omega
theorem cntP_two (P : Nat → Bool) : ∀ m, cntP P (2 * m) = cntP (fun q => P (2 * q)) m + cntP (fun q => P (2 * q + 1)) m
  | 0 => rfl
  | m + 1 => by
    have e : 2 * (m + 1) = (2 * m + 1) + 1 := by omega
    rw [e]
    show cntP P (2 * m) + (if P (2 * m) then 1 else 0) + (if P (2 * m + 1) then 1 else 0) = (cntP (fun q => P (2 * q)) m + (if P (2 * m) then 1 else 0)) + (cntP (fun q => P (2 * q + 1)) m + (if P (2 * m + 1) then 1 else 0))
    rw [cntP_two P m]
    omega
theorem cnt_sat : ∀ k lit dark, lit < 2 ^ k → dark < 2 ^ k → cntP (fun p => satB p lit dark) (2 ^ k) = if lit &&& dark = 0 then 2 ^ (k - pcN k (lit ||| dark)) else 0
  | 0, lit, dark, hl, hd => by
    have e1 : lit = 0 := by simpa using hl
    have e2 : dark = 0 := by simpa using hd
    subst e1; subst e2
    rfl
  | k + 1, lit, dark, hl, hd => by
    rw [Nat.pow_succ] at hl hd
    have ih := cnt_sat k (lit / 2) (dark / 2) (by omega) (by omega)
    rw [Nat.pow_succ, Nat.mul_comm (2 ^ k) 2, cntP_two]
    have s0 : cntP (fun q => satB (2 * q) lit dark) (2 ^ k) = cntP (fun q => satB 0 (lit % 2) (dark % 2) && satB q (lit / 2) (dark / 2)) (2 ^ k) := cntP_cong _ (fun q _ => satB_step q 0 lit dark (by decide))
    have s1 : cntP (fun q => satB (2 * q + 1) lit dark) (2 ^ k) = cntP (fun q => satB 1 (lit % 2) (dark % 2) && satB q (lit / 2) (dark / 2)) (2 ^ k) := cntP_cong _ (fun q _ => satB_step q 1 lit dark (by decide))
    rw [s0, s1]
    have ple : pcN k ((lit ||| dark) / 2) ≤ k := pcN_le _ _
    have hp : pcN (k + 1) (lit ||| dark) = (lit ||| dark) % 2 + pcN k ((lit ||| dark) / 2) := rfl
    have ha : lit &&& dark = 0 ↔ (lit % 2 &&& dark % 2 = 0 ∧ lit / 2 &&& dark / 2 = 0) := by
      rw [half_eq, and_mod, and_half]
    have hf : ∀ (b : Bool), cntP (fun q => b && satB q (lit / 2) (dark / 2)) (2 ^ k) = if b then cntP (fun q => satB q (lit / 2) (dark / 2)) (2 ^ k) else 0 := by
      intro b
      cases b
      · exact cntP_false _
      · rfl
    rw [hf, hf, ih, hp, or_mod, or_half]
    rw [or_half] at ple
    have m1 : lit % 2 = 0 ∨ lit % 2 = 1 := by omega
    have m2 : dark % 2 = 0 ∨ dark % 2 = 1 := by omega
    by_cases c : lit / 2 &&& dark / 2 = 0
    · rcases m1 with e1 | e1 <;> rcases m2 with e2 | e2 <;> rw [e1, e2] <;> rw [e1, e2] at ha
      · rw [if_pos c, if_pos (ha.mpr ⟨rfl, c⟩)]
        show 2 ^ (k - pcN k (lit / 2 ||| dark / 2)) + 2 ^ (k - pcN k (lit / 2 ||| dark / 2)) = 2 ^ (k + 1 - (0 + pcN k (lit / 2 ||| dark / 2)))
        rw [show k + 1 - (0 + pcN k (lit / 2 ||| dark / 2)) = (k - pcN k (lit / 2 ||| dark / 2)) + 1 by omega, Nat.pow_succ]
        omega
      · rw [if_pos c, if_pos (ha.mpr ⟨rfl, c⟩)]
        show 2 ^ (k - pcN k (lit / 2 ||| dark / 2)) + 0 = 2 ^ (k + 1 - (1 + pcN k (lit / 2 ||| dark / 2)))
        rw [show k + 1 - (1 + pcN k (lit / 2 ||| dark / 2)) = k - pcN k (lit / 2 ||| dark / 2) by omega, Nat.add_zero]
      · rw [if_pos c, if_pos (ha.mpr ⟨rfl, c⟩)]
        show 0 + 2 ^ (k - pcN k (lit / 2 ||| dark / 2)) = 2 ^ (k + 1 - (1 + pcN k (lit / 2 ||| dark / 2)))
        rw [show k + 1 - (1 + pcN k (lit / 2 ||| dark / 2)) = k - pcN k (lit / 2 ||| dark / 2) by omega, Nat.zero_add]
      · rw [if_neg (fun q => absurd (ha.mp q).1 (by decide))]
        rfl
    · have hna : ¬ lit &&& dark = 0 := fun q => c (ha.mp q).2
      rw [if_neg c, if_neg hna]
      simp
theorem sat_lit {p lit dark q : Nat} : satB p (lit ||| 2 ^ q) dark = (satB p lit dark && p.testBit q) := by
  unfold satB
  have h1 : (p &&& (lit ||| 2 ^ q) == lit ||| 2 ^ q) = ((p &&& lit == lit) && p.testBit q) := by
    rw [Bool.eq_iff_iff]
    simp only [beq_iff_eq, Bool.and_eq_true]
    constructor
    · intro h
      have hb : ∀ i, (p.testBit i && (lit.testBit i || decide (q = i))) = (lit.testBit i || decide (q = i)) := fun i => by
        have := congrArg (fun x => x.testBit i) h
        simpa [Nat.testBit_and, Nat.testBit_or, Nat.testBit_two_pow] using this
      refine ⟨Nat.eq_of_testBit_eq (fun i => ?_), ?_⟩
      · rw [Nat.testBit_and]
        have := hb i
        cases hl : lit.testBit i
        · simp
        · rw [hl] at this
          simpa using this
      · have := hb q
        simpa using this
    · rintro ⟨h, hq⟩
      apply Nat.eq_of_testBit_eq
      intro i
      have hb : (p.testBit i && lit.testBit i) = lit.testBit i := by
        have := congrArg (fun x => x.testBit i) h
        simpa [Nat.testBit_and] using this
      rw [Nat.testBit_and, Nat.testBit_or, Nat.testBit_two_pow]
      by_cases e : q = i
      · subst e; simp [hq]
      · simp only [e, decide_false, Bool.or_false]
        exact hb
  rw [h1]
  cases (p &&& lit == lit) <;> cases p.testBit q <;> cases (p &&& dark == 0) <;> rfl
theorem sat_dark {p lit dark q : Nat} : satB p lit (dark ||| 2 ^ q) = (satB p lit dark && !p.testBit q) := by
  unfold satB
  have h1 : (p &&& (dark ||| 2 ^ q) == 0) = ((p &&& dark == 0) && !p.testBit q) := by
    rw [Bool.eq_iff_iff]
    simp only [beq_iff_eq, Bool.and_eq_true, Bool.not_eq_true']
    constructor
    · intro h
      have hb : ∀ i, (p.testBit i && (dark.testBit i || decide (q = i))) = false := fun i => by
        have := congrArg (fun x => x.testBit i) h
        simpa [Nat.testBit_and, Nat.testBit_or, Nat.testBit_two_pow] using this
      refine ⟨Nat.eq_of_testBit_eq (fun i => ?_), ?_⟩
      · rw [Nat.testBit_and, Nat.zero_testBit]
        have := hb i
        cases hl : dark.testBit i
        · simp
        · rw [hl] at this
          simpa using this
      · have := hb q
        simpa using this
    · rintro ⟨h, hq⟩
      apply Nat.eq_of_testBit_eq
      intro i
      have hb : (p.testBit i && dark.testBit i) = false := by
        have := congrArg (fun x => x.testBit i) h
        simpa [Nat.testBit_and] using this
      rw [Nat.testBit_and, Nat.testBit_or, Nat.testBit_two_pow, Nat.zero_testBit]
      by_cases e : q = i
      · subst e; simp [hq]
      · simp only [e, decide_false, Bool.or_false]
        exact hb
  rw [h1]
  cases (p &&& dark == 0) <;> cases p.testBit q <;> cases (p &&& lit == lit) <;> rfl
theorem bit_is (p q : Nat) : p / 2 ^ q % 2 = if p.testBit q then 1 else 0 := by
  rw [Nat.testBit_eq_decide_div_mod_eq]
  have : p / 2 ^ q % 2 < 2 := Nat.mod_lt _ (by decide)
  by_cases c : p / 2 ^ q % 2 = 1
  · rw [c]; rfl
  · rw [show p / 2 ^ q % 2 = 0 by omega]; rfl
/-- what THE SECOND would show with the pattern p -/
def patC (M : Nat → Nat) (p : Nat) : Nat → Nat := fun k => sndN (tk (mU (mU M 3 p) 4 (M 4)) k)
theorem patC_eq {M : Nat → Nat} {p k : Nat} (h6 : M 6 < 16777216) (h4 : M 4 < 24) : patC M p k = if M 5 = 1 then (if M 4 ≤ k then fstN p (M 0 + (k - M 4)) else M 6 / 2 ^ (M 4 - k - 1) % 2) else fstN p (M 0 + k) := by
  unfold patC
  have m6 : (mU (mU M 3 p) 4 (M 4)) 6 = M 6 := by rw [mU_ne (by decide), mU_ne (by decide)]
  have m5 : (mU (mU M 3 p) 4 (M 4)) 5 = M 5 := by rw [mU_ne (by decide), mU_ne (by decide)]
  have m4 : (mU (mU M 3 p) 4 (M 4)) 4 = M 4 := mU_self
  have m3 : (mU (mU M 3 p) 4 (M 4)) 3 = p := by rw [mU_ne (by decide), mU_self]
  have m0 : (mU (mU M 3 p) 4 (M 4)) 0 = M 0 := by rw [mU_ne (by decide), mU_ne (by decide)]
  rw [sndN_tk _ k (by rw [m6]; exact h6) (by rw [m4]; exact h4)]
  unfold secA
  rw [m0, m3, m4, m5, m6]
