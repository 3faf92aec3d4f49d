/-! ===== how many bits are 1 ===== -/
def pcN : Nat → Nat → Nat
  | 0, _ => 0
  | k + 1, n => n % 2 + pcN k (n / 2)
theorem pcN_0 : ∀ k, pcN k 0 = 0
  | 0 => rfl
  | k + 1 => by show 0 % 2 + pcN k (0 / 2) = 0; rw [Nat.zero_div, pcN_0 k]
theorem pcN_add (m w : Nat) : ∀ k x, x < 2 ^ k → pcN (k + m) (x + 2 ^ k * w) = pcN k x + pcN m w
  | 0, x, h => by
    have : x = 0 := by simpa using h
    subst this
    simp [pcN]
  | k + 1, x, h => by
    have e : k + 1 + m = (k + m) + 1 := by omega
    rw [e]
    have p : 2 ^ (k + 1) * w = 2 * (2 ^ k * w) := by rw [Nat.pow_succ, Nat.mul_comm (2 ^ k) 2, Nat.mul_assoc]
    have h2 : x < 2 * 2 ^ k := by rw [Nat.pow_succ] at h; omega
    show (x + 2 ^ (k + 1) * w) % 2 + pcN (k + m) ((x + 2 ^ (k + 1) * w) / 2) = x % 2 + pcN k (x / 2) + pcN m w
    rw [p, show (x + 2 * (2 ^ k * w)) % 2 = x % 2 by omega, show (x + 2 * (2 ^ k * w)) / 2 = x / 2 + 2 ^ k * w by omega, pcN_add m w k (x / 2) (by omega)]
    omega
theorem pcN_le : ∀ k n, pcN k n ≤ k
  | 0, _ => Nat.le_refl 0
  | k + 1, n => by
    have := pcN_le k (n / 2)
    show n % 2 + pcN k (n / 2) ≤ k + 1
    omega
theorem land_byte {u v : Nat} (hu : u < 256) (hv : v < 256) (p q : Nat) : (u + 256 * p) &&& (v + 256 * q) = (u &&& v) + 256 * (p &&& q) := by
  have hw : u &&& v < 2 ^ 8 := Nat.lt_of_le_of_lt Nat.and_le_left hu
  apply Nat.eq_of_testBit_eq
  intro i
  rw [Nat.testBit_and, Nat.add_comm u, Nat.add_comm v, Nat.add_comm (u &&& v), show (256 : Nat) = 2 ^ 8 from rfl, Nat.testBit_two_pow_mul_add p hu, Nat.testBit_two_pow_mul_add q hv, Nat.testBit_two_pow_mul_add (p &&& q) hw]
  split
  · rw [Nat.testBit_and]
  · rw [Nat.testBit_and]
def bA (x : Nat) : Nat := x - ((x / 2) &&& 85)
def bB (x : Nat) : Nat := (bA x &&& 51) + ((bA x / 4) &&& 51)
theorem b_facts : ∀ x, x < 256 → ((x / 2) &&& 85 ≤ x ∧ bA x < 256 ∧ bB x < 69 ∧ (bB x + bB x / 16) &&& 15 = pcN 8 x ∧ pcN 8 x ≤ 8 ∧ bB x % 16 ≤ 4) := by decide +kernel
theorem b_m1 : ∀ x, x < 256 → ∀ e, e < 2 → (x / 2 + 128 * e) &&& 85 = (x / 2) &&& 85 := by decide +kernel
theorem b_m2 : ∀ x, x < 256 → ∀ e, e < 4 → (x / 4 + 64 * e) &&& 51 = (x / 4) &&& 51 := by decide +kernel
theorem b_m3 : ∀ x, x < 256 → ∀ e, e < 5 → (bB x + bB x / 16 + 16 * e) &&& 15 = (bB x + bB x / 16) &&& 15 := by decide +kernel
/-- three bytes under a mask of bytes -/
theorem land_3 {u v w m : Nat} (hu : u < 256) (hv : v < 256) (hw : w < 256) (hm : m < 256) : (u + 256 * (v + 256 * w)) &&& (m + 256 * (m + 256 * (m + 256 * m))) = (u &&& m) + 256 * ((v &&& m) + 256 * (w &&& m)) := by
  rw [land_byte hu hm, land_byte hv hm]
  have : w &&& (m + 256 * m) = w &&& m := by
    have h := land_byte hw hm 0 m
    rw [Nat.mul_zero, Nat.add_zero] at h
    rw [h, Nat.zero_and]
    omega
  rw [this]
theorem bc_nat {x y z : Nat} (hx : x < 256) (hy : y < 256) (hz : z < 256) :
    (let n := x + 256 * (y + 256 * z)
     let a := n - ((n / 2) &&& 1431655765)
     let b := (a &&& 858993459) + ((a / 4) &&& 858993459)
     let c := (b + b / 16) &&& 252645135
     let d := c + c / 256
     let e := d + d / 65536
     e % 64) = pcN 24 (x + 256 * (y + 256 * z)) := by
  obtain ⟨x1, x2, x3, x4, x5, x6⟩ := b_facts x hx
  obtain ⟨y1, y2, y3, y4, y5, y6⟩ := b_facts y hy
  obtain ⟨z1, z2, z3, z4, z5, z6⟩ := b_facts z hz
  have ep : pcN 24 (x + 256 * (y + 256 * z)) = pcN 8 x + (pcN 8 y + pcN 8 z) := by
    rw [show (24 : Nat) = 8 + 16 from rfl, show (256 : Nat) = 2 ^ 8 from rfl, pcN_add 16 _ 8 x hx, show (16 : Nat) = 8 + 8 from rfl, pcN_add 8 z 8 y hy]
  have ea : x + 256 * (y + 256 * z) - ((x + 256 * (y + 256 * z)) / 2 &&& 1431655765) = bA x + 256 * (bA y + 256 * bA z) := by
    rw [show (1431655765 : Nat) = 85 + 256 * (85 + 256 * (85 + 256 * 85)) from rfl, show (x + 256 * (y + 256 * z)) / 2 = (x / 2 + 128 * (y % 2)) + 256 * ((y / 2 + 128 * (z % 2)) + 256 * (z / 2)) by omega, land_3 (by omega) (by omega) (by omega) (by decide), b_m1 x hx _ (by omega), b_m1 y hy _ (by omega)]
    unfold bA
    omega
  have eb : ((bA x + 256 * (bA y + 256 * bA z)) &&& 858993459) + ((bA x + 256 * (bA y + 256 * bA z)) / 4 &&& 858993459) = bB x + 256 * (bB y + 256 * bB z) := by
    rw [show (858993459 : Nat) = 51 + 256 * (51 + 256 * (51 + 256 * 51)) from rfl, land_3 x2 y2 z2 (by decide), show (bA x + 256 * (bA y + 256 * bA z)) / 4 = (bA x / 4 + 64 * (bA y % 4)) + 256 * ((bA y / 4 + 64 * (bA z % 4)) + 256 * (bA z / 4)) by omega, land_3 (by omega) (by omega) (by omega) (by decide), b_m2 _ x2 _ (by omega), b_m2 _ y2 _ (by omega)]
    unfold bB
    omega
  have ec : ((bB x + 256 * (bB y + 256 * bB z)) + (bB x + 256 * (bB y + 256 * bB z)) / 16) &&& 252645135 = pcN 8 x + 256 * (pcN 8 y + 256 * pcN 8 z) := by
    rw [show (252645135 : Nat) = 15 + 256 * (15 + 256 * (15 + 256 * 15)) from rfl, show (bB x + 256 * (bB y + 256 * bB z)) + (bB x + 256 * (bB y + 256 * bB z)) / 16 = (bB x + bB x / 16 + 16 * (bB y % 16)) + 256 * ((bB y + bB y / 16 + 16 * (bB z % 16)) + 256 * (bB z + bB z / 16)) by omega, land_3 (by omega) (by omega) (by omega) (by decide), b_m3 x hx _ (by omega), b_m3 y hy _ (by omega), x4, y4, z4]
  simp only []
  rw [ea, eb, ec, ep]
  clear ea eb ec ep x1 x2 x3 x4 x6 y1 y2 y3 y4 y6 z1 z2 z3 z4 z6
  generalize pcN 8 x = p at *
  generalize pcN 8 y = q at *
  generalize pcN 8 z = r at *
  rw [show (p + 256 * (q + 256 * r)) / 256 = q + 256 * r by omega, show (p + 256 * (q + 256 * r) + (q + 256 * r)) / 65536 = r by omega]
  omega
theorem c_bits {n : Nat} (hn : n < 16777216) (τ : tw_T) : f_J6_bitCount_0f7a4 (nI n) τ = nI (pcN 24 n) := by
  have en : n = n % 256 + 256 * (n / 256 % 256 + 256 * (n / 65536)) := by omega
  have h := bc_nat (x := n % 256) (y := n / 256 % 256) (z := n / 65536) (by omega) (by omega) (by omega)
  rw [← en] at h
  rw [← h]
  simp only []
  unfold f_J6_bitCount_0f7a4
  have u1 : ∀ {m : Nat}, m < 2 ^ 32 → ((nI m).toUInt32 >>> ((1 : Int32).toUInt32 &&& Int32.toUInt32 31)).toInt32 = nI (m / 2) := fun {m} hm => pk_ushrN hm 1 1 (by decide)
  have u2 : ∀ {m : Nat}, m < 2 ^ 32 → ((nI m).toUInt32 >>> ((2 : Int32).toUInt32 &&& Int32.toUInt32 31)).toInt32 = nI (m / 4) := fun {m} hm => pk_ushrN hm 2 2 (by decide)
  have u4 : ∀ {m : Nat}, m < 2 ^ 32 → ((nI m).toUInt32 >>> ((4 : Int32).toUInt32 &&& Int32.toUInt32 31)).toInt32 = nI (m / 16) := fun {m} hm => pk_ushrN hm 4 4 (by decide)
  have u8 : ∀ {m : Nat}, m < 2 ^ 32 → ((nI m).toUInt32 >>> ((8 : Int32).toUInt32 &&& Int32.toUInt32 31)).toInt32 = nI (m / 256) := fun {m} hm => pk_ushrN hm 8 8 (by decide)
  have u16 : ∀ {m : Nat}, m < 2 ^ 32 → ((nI m).toUInt32 >>> ((16 : Int32).toUInt32 &&& Int32.toUInt32 31)).toInt32 = nI (m / 65536) := fun {m} hm => pk_ushrN hm 16 16 (by decide)
  have k1 : (1431655765 : Int32) = nI 1431655765 := rfl
  have k2 : (858993459 : Int32) = nI 858993459 := rfl
  have k3 : (252645135 : Int32) = nI 252645135 := rfl
  have k4 : (63 : Int32) = nI 63 := rfl
  have i1 : n / 2 &&& 1431655765 ≤ n / 2 := Nat.and_le_left
  have ea : nI n - nI (n / 2 &&& 1431655765) = nI (n - (n / 2 &&& 1431655765)) := pk_sub (by omega)
  rw [u1 (by omega), k1, q_and, ea]
  generalize hA : n - (n / 2 &&& 1431655765) = a
  have ha : a < 16777216 := by omega
  have i2 : a &&& 858993459 ≤ a := Nat.and_le_left
  have i3 : a / 4 &&& 858993459 ≤ a / 4 := Nat.and_le_left
  rw [u2 (by omega), k2, q_and, q_and, nI_add]
  generalize hB : (a &&& 858993459) + (a / 4 &&& 858993459) = b
  have hb : b < 2 ^ 25 := by omega
  rw [u4 (by omega), nI_add, k3, q_and]
  have i4 : (b + b / 16) &&& 252645135 ≤ b + b / 16 := Nat.and_le_left
  generalize hC : (b + b / 16) &&& 252645135 = cc
  have hc : cc < 2 ^ 27 := by omega
  rw [u8 (by omega), nI_add]
  generalize hD : cc + cc / 256 = d
  have hd : d < 2 ^ 28 := by omega
  rw [u16 (by omega), nI_add, k4, q_and, show (63 : Nat) = 2 ^ 6 - 1 from rfl, Nat.and_two_pow_sub_one_eq_mod]
/-- the reference's own count: the lowest bit goes, one after the other -/
theorem pc_drop : ∀ k n, 0 < n → n < 2 ^ k → pcN k n = pcN k (n &&& (n - 1)) + 1
  | 0, n, h, h2 => absurd h2 (by simp; omega)
  | k + 1, n, h, h2 => by
    have hd : (n &&& (n - 1)) / 2 = (n / 2) &&& ((n - 1) / 2) := by
      have := Nat.and_div_two_pow (a := n) (b := n - 1) (n := 1)
      simpa using this
    have hm : (n &&& (n - 1)) % 2 = 0 := by
      have := Nat.and_mod_two_pow (a := n) (b := n - 1) (n := 1)
      rw [show (2 : Nat) ^ 1 = 2 from rfl] at this
      rw [this]
      rcases (show n % 2 = 0 ∨ n % 2 = 1 by omega) with e | e
      · rw [e, Nat.zero_and]
      · rw [show (n - 1) % 2 = 0 by omega, Nat.and_zero]
    show n % 2 + pcN k (n / 2) = (n &&& (n - 1)) % 2 + pcN k ((n &&& (n - 1)) / 2) + 1
    rw [hm, hd]
    rw [Nat.pow_succ] at h2
    rcases (show n % 2 = 0 ∨ n % 2 = 1 by omega) with e | e
    · rw [e, show (n - 1) / 2 = n / 2 - 1 by omega, pc_drop k (n / 2) (by omega) (by omega)]
      omega
    · rw [e, show (n - 1) / 2 = n / 2 by omega, Nat.and_self]
      omega
theorem ml_bits {N k : Nat} {x0 : Int32} {τ : tw_T} (hk : k ≤ 30) : ∀ d n fuel a, pcN k n = d → n < 2 ^ k → d < fuel → lf_X9_bits_4 N fuel x0 (nI a) (nI n) τ = nI (a + d) ∧ lo_X9_bits_4 N fuel x0 (nI a) (nI n) τ := by
  have p30 : (2 : Nat) ^ k ≤ 2 ^ 30 := Nat.pow_le_pow_right (by decide) hk
  have z : ∀ k n, n < 2 ^ k → pcN k n = 0 → n = 0 := by
    intro k
    induction k with
    | zero => intro n h _; simpa using h
    | succ k ih =>
      intro n h e
      have e2 : n % 2 + pcN k (n / 2) = 0 := e
      rw [Nat.pow_succ] at h
      have := ih (n / 2) (by omega) (by omega)
      omega
  intro d
  induction d with
  | zero =>
    intro n fuel a e hn hf
    obtain ⟨x, rfl⟩ : ∃ x, fuel = x + 1 := ⟨fuel - 1, by omega⟩
    have := z k n hn e
    subst this
    rw [lf_X9_bits_4, lo_X9_bits_4, if_pos (show nI 0 = (0 : Int32) from rfl), if_pos (show nI 0 = (0 : Int32) from rfl)]
    exact ⟨rfl, trivial⟩
  | succ d ih =>
    intro n fuel a e hn hf
    obtain ⟨x, rfl⟩ : ∃ x, fuel = x + 1 := ⟨fuel - 1, by omega⟩
    have h0 : 0 < n := by
      rcases Nat.eq_zero_or_pos n with q | q
      · subst q; rw [pcN_0] at e; omega
      · exact q
    have e2 := pc_drop k n h0 hn
    have hle : n &&& (n - 1) ≤ n := Nat.and_le_left
    rw [lf_X9_bits_4, lo_X9_bits_4, if_neg (nI_ne0 h0 (by omega)), if_neg (nI_ne0 h0 (by omega)), nI_1, show nI n - 1 = nI (n - 1) from pk_sub h0, q_and]
    have := ih (n &&& (n - 1)) x (a + 1) (by omega) (by omega) (by omega)
    rw [show a + 1 + d = a + (d + 1) by omega] at this
    exact this
theorem m_bits {N n : Nat} (hn : n < 16777216) (hN : 30 ≤ N) (τ : tw_T) : f_X9_bits N (nI n) τ = nI (pcN 24 n) ∧ p_X9_bits N (nI n) τ := by
  have h := ml_bits (N := N) (k := 24) (x0 := nI n) (τ := τ) (by decide) (pcN 24 n) n N 0 rfl hn (by have := pcN_le 24 n; omega)
  rw [Nat.zero_add] at h
  exact h
