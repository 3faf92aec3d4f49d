/-! ===== the call: nights ===== -/
def drZ (z : Int32) : Int32 := (z * 1103515245) + 12345
def drD (z : Int32) : Nat := (drZ z).toBitVec.toNat / 256
theorem dr_eq (z : Int32) : ((drZ z).toUInt32 >>> ((8 : Int32).toUInt32 &&& Int32.toUInt32 31)).toInt32 = nI (drD z) := by
  apply Int32.toBitVec_inj.mp
  apply BitVec.eq_of_toNat_eq
  rw [pk_ushr (drZ z) 8 8 (by decide), pk_tn]
  · rfl
  · have h := (drZ z).toBitVec.isLt
    unfold drD
    omega
theorem drD_lt (z : Int32) : drD z < 16777216 := by
  have h := (drZ z).toBitVec.isLt
  unfold drD
  omega
def flipN (M : Nat → Nat) (d : Nat) : Nat → Nat := mU M 3 (M 3 ^^^ 2 ^ (d % 12))
def fastN (M : Nat → Nat) (k : Nat) : Nat → Nat := if k < M 1 then mU M (17 + 7 * k + 3) (minN 5 (M (17 + 7 * k + 3) + 1)) else M
def nightN (M : Nat → Nat) (z : Int32) : Nat → Nat := tickN (fastN (flipN M (drD z)) (drD (drZ z) % 8))
def nsM (M : Nat → Nat) (z : Int32) : Nat → (Nat → Nat)
  | 0 => M
  | n + 1 => nightN (nsM M z n) (Nat.rec z (fun _ y => drZ (drZ y)) n)
def nsZ (z : Int32) : Nat → Int32
  | 0 => z
  | n + 1 => drZ (drZ (nsZ z n))
theorem nsZ_rec (z : Int32) : ∀ n, (Nat.rec z (fun _ y => drZ (drZ y)) n : Int32) = nsZ z n
  | 0 => rfl
  | n + 1 => by show drZ (drZ (Nat.rec z (fun _ y => drZ (drZ y)) n)) = _; rw [nsZ_rec z n]; rfl
theorem nsM_succ (M : Nat → Nat) (z : Int32) (n : Nat) : nsM M z (n + 1) = nightN (nsM M z n) (nsZ z n) := by
  show nightN (nsM M z n) (Nat.rec z (fun _ y => drZ (drZ y)) n) = _
  rw [nsZ_rec]
theorem xor_lt {p k : Nat} (hp : p < 4096) (hk : k < 12) : p ^^^ 2 ^ k < 4096 := by
  have h2 : (2 : Nat) ^ k < 2 ^ 12 := Nat.pow_lt_pow_right (by decide) hk
  exact Nat.xor_lt_two_pow (n := 12) hp h2
theorem okT_flip {T d : Nat} {M : Nat → Nat} (h : okT T M) : okT T (flipN M d) := by
  have h3 : M 3 < 4096 := h.2.2 3 (by decide) (by decide) (by decide)
  unfold flipN
  refine ⟨by rw [mU_ne (by decide)]; exact h.1, by rw [mU_ne (by decide)]; exact h.2.1, fun j a b e => ?_⟩
  by_cases c : j = 3
  · subst c
    rw [mU_self]
    exact xor_lt h3 (Nat.mod_lt _ (by decide))
  · rw [mU_ne c]; exact h.2.2 j a b e
theorem okT_fast {T k : Nat} {M : Nat → Nat} (h : okT T M) : okT T (fastN M k) := by
  unfold fastN
  split
  · rename_i hk
    have := h.2.1
    have m := minN_le 5 (M (17 + 7 * k + 3) + 1)
    refine ⟨by rw [mU_ne (by omega)]; exact h.1, by rw [mU_ne (by omega)]; exact h.2.1, fun j a b e => ?_⟩
    by_cases c : j = 17 + 7 * k + 3
    · rw [c, mU_self, bd_ship (by decide)]
      show _ < 6
      omega
    · rw [mU_ne c]; exact h.2.2 j a b e
  · exact h
theorem fastN_1 {M : Nat → Nat} {k : Nat} {j : Nat} (h : j < 17) : fastN M k j = M j := by
  unfold fastN
  split
  · rw [mU_ne (by omega)]
  · rfl
theorem okT_night {T : Nat} {M : Nat → Nat} {z : Int32} (h : okT T M) : okT (T + 1) (nightN M z) := okT_tick (okT_fast (okT_flip h))
theorem okT_ns {T : Nat} {M : Nat → Nat} {z : Int32} (h : okT T M) : ∀ n, okT (T + n) (nsM M z n)
  | 0 => h
  | n + 1 => by rw [nsM_succ]; exact okT_night (okT_ns h n)
theorem night_0 (M : Nat → Nat) (z : Int32) : nightN M z 0 = M 0 + 1 := by
  unfold nightN flipN
  rw [tickN_0, fastN_1 (by decide), mU_ne (by decide)]
theorem night_1 (M : Nat → Nat) (z : Int32) : nightN M z 1 = M 1 := by
  unfold nightN flipN
  rw [tickN_lo _ (by decide) (by decide) (by decide), fastN_1 (by decide), mU_ne (by decide)]
theorem ns_0 (M : Nat → Nat) (z : Int32) : ∀ n, nsM M z n 0 = M 0 + n
  | 0 => rfl
  | n + 1 => by rw [nsM_succ, night_0, ns_0 M z n]; omega
theorem ns_1 (M : Nat → Nat) (z : Int32) : ∀ n, nsM M z n 1 = M 1
  | 0 => rfl
  | n + 1 => by rw [nsM_succ, night_1, ns_1 M z n]
theorem q_bit {k : Nat} (h : k < 31) : (1 : Int32) <<< (nI k &&& 31) = nI (2 ^ k) := by
  have h2 : (2 : Nat) ^ k < 2 ^ 31 := Nat.pow_lt_pow_right (by decide) h
  rw [q_1, q_shl (by omega) (by omega), Nat.one_mul]
theorem q_min5 {a : Nat} (h : a < 2 ^ 31) : (if nI 5 < nI a then nI 5 else nI a) = nI (minN 5 a) := by
  simp (disch := omega) only [nI_ltI, q_ite]
  rfl
theorem c_draw {b : Nat} {τ : tw_T} {z : Int32} (h : τ b 3 = z) : f_X4_draw b τ = nI (drD z) ∧ g_X4_draw b τ = tw_sr τ b (upd (τ b) 3 (drZ z)) := by
  unfold f_X4_draw g_X4_draw
  rw [sr_self, pk_us, h]
  exact ⟨dr_eq z, rfl⟩
theorem c_night {N b T : Nat} {M : Nat → Nat} {τ : tw_T} {z : Int32} (ok : okT T M) (hT : M 0 + 1 ≤ 99999) (hN : 9 ≤ N) (h : stC τ b M) (hz : τ b 3 = z) :
    stC (g_X4_passNight N b τ) b (nightN M z) ∧ (g_X4_passNight N b τ) b 3 = drZ (drZ z) ∧ (∀ q, (q < b ∨ b + 12 ≤ q) → g_X4_passNight N b τ q = τ q) ∧ p_X4_passNight N b τ := by
  obtain ⟨⟨h0, h1, h2, h3, h4⟩, hn, hs⟩ := h
  have hM1 := ok.2.1
  have l3 : M 3 < 4096 := ok.2.2 3 (by decide) (by decide) (by decide)
  obtain ⟨d1, d2⟩ := c_draw hz
  have dl := drD_lt z
  have dl2 := drD_lt (drZ z)
  have m12 : drD z % 12 < 12 := Nat.mod_lt _ (by decide)
  have e12 : (nI (drD z) - nI (drD z) / 12 * 12 : Int32) = nI (drD z % 12) := by rw [q_12, pk_rem (by omega) (by decide) (by decide)]
  have ex : nI (M 3) ^^^ ((1 : Int32) <<< (nI (drD z % 12) &&& 31)) = nI (flipN M (drD z) 3) := by
    rw [q_bit (by omega), q_xor]
    unfold flipN
    rw [mU_self]
  unfold g_X4_passNight p_X4_passNight
  rw [d1, d2, e12, h0, sr_ne (show b + 1 ≠ b by omega), ex]
  generalize hτ2 : tw_sr (tw_sr τ b (upd (τ b) 3 (drZ z))) (b + 1) (upd (τ (b + 1)) 0 (nI (flipN M (drD z) 3))) = τ2
  have hz2 : τ2 b 3 = drZ z := by rw [← hτ2, sr_ne (by omega), sr_self, pk_us]
  obtain ⟨d3, d4⟩ := c_draw hz2
  have e8 : (nI (drD (drZ z)) - nI (drD (drZ z)) / 8 * 8 : Int32) = nI (drD (drZ z) % 8) := by rw [q_8, pk_rem (by omega) (by decide) (by decide)]
  rw [d3, d4, e8]
  generalize hτ3 : tw_sr τ2 b (upd (τ2 b) 3 (drZ (drZ z))) = τ3
  have t3b : τ3 b 3 = drZ (drZ z) := by rw [← hτ3, sr_self, pk_us]
  have t3q : ∀ q, q ≠ b → q ≠ b + 1 → τ3 q = τ q := fun q a c => by rw [← hτ3, sr_ne a, ← hτ2, sr_ne c, sr_ne a]
  have t3l : τ3 (b + 1) = upd (τ (b + 1)) 0 (nI (flipN M (drD z) 3)) := by rw [← hτ3, sr_ne (by omega), ← hτ2, sr_self]
  have st3 : stC τ3 b (flipN M (drD z)) := by
    refine ⟨?_, ?_, fun i hi f hf => ?_⟩
    · rw [t3l]
      unfold flipN
      exact ⟨by rw [pk_us], by rw [pk_un (by decide), mU_ne (by decide)]; exact h1, by rw [pk_un (by decide), mU_ne (by decide)]; exact h2, by rw [pk_un (by decide), mU_ne (by decide)]; exact h3, by rw [pk_un (by decide), mU_ne (by decide)]; exact h4⟩
    · rw [t3q _ (by omega) (by omega), hn]
      unfold flipN
      rw [mU_ne (by decide)]
    · have hi' : i < M 1 := by unfold flipN at hi; rw [mU_ne (by decide)] at hi; exact hi
      rw [t3q _ (by omega) (by omega), hs i hi' f hf]
      unfold flipN shipN
      rw [mU_ne (by omega)]
  have t31 : τ3 (b + 2) 1 = nI (M 1) := by rw [t3q _ (by omega) (by omega), hn]
  have okf := okT_flip (d := drD z) ok
  have f1 : flipN M (drD z) 1 = M 1 := mU_ne (by decide)
  have f0 : flipN M (drD z) 0 = M 0 := mU_ne (by decide)
  have m8 : drD (drZ z) % 8 < 8 := Nat.mod_lt _ (by decide)
  rw [t31]
  generalize hk : drD (drZ z) % 8 = k at *
  by_cases c : k < M 1
  · have hle : ¬ nI (M 1) ≤ nI k := nI_ge c (by omega)
    rw [if_neg hle, if_neg hle, nI_clamp (by omega)]
    have es : τ3 (b + 2 + 2 + k) 3 = nI (flipN M (drD z) (17 + 7 * k + 3)) := by
      rw [show b + 2 + 2 + k = b + 4 + k by omega]
      exact st3.2.2 k (by rw [f1]; exact c) 3 (by decide)
    have bs : flipN M (drD z) (17 + 7 * k + 3) < 6 := (okT_S okf (i := k) (by omega)).2.2.2.1
    rw [es, nI_1, show (5 : Int32) = nI 5 from rfl, q_min5 (by omega)]
    have stf : stC (tw_sr τ3 (b + 2 + 2 + k) (upd (τ3 (b + 2 + 2 + k)) 3 (nI (minN 5 (flipN M (drD z) (17 + 7 * k + 3) + 1))))) b (fastN (flipN M (drD z)) k) := by
      have ef : fastN (flipN M (drD z)) k = mU (flipN M (drD z)) (17 + 7 * k + 3) (minN 5 (flipN M (drD z) (17 + 7 * k + 3) + 1)) := if_pos (by rw [f1]; exact c)
      rw [ef]
      refine ⟨?_, ?_, fun i hi f hf => ?_⟩
      · rw [sr_ne (by omega)]
        unfold litR
        rw [mU_ne (by omega), mU_ne (by omega), mU_ne (by omega), mU_ne (by omega), mU_ne (by omega)]
        exact st3.1
      · rw [sr_ne (by omega), mU_ne (by omega)]
        exact st3.2.1
      · rw [mU_ne (by omega)] at hi
        have hb := st3.2.2 i hi f hf
        show _ = nI (mU (flipN M (drD z)) (17 + 7 * k + 3) _ (17 + 7 * i + f))
        by_cases e : i = k
        · subst e
          rw [show b + 4 + i = b + 2 + 2 + i by omega, sr_self]
          by_cases e3 : f = 3
          · subst e3
            rw [pk_us, mU_self]
          · rw [pk_un e3, mU_ne (by omega), show b + 2 + 2 + i = b + 4 + i by omega]
            exact hb
        · rw [sr_ne (by omega), mU_ne (by omega)]
          exact hb
    obtain ⟨a1, a2, a3⟩ := c_passTick (N := N) (okT_fast (k := k) okf) (by rw [fastN_1 (by decide), f0]; exact hT) hN stf
    refine ⟨?_, ?_, fun q hq => ?_, vp_in_nI (by omega) (by decide), a3, trivial⟩
    · unfold nightN
      rw [hk]
      exact a1
    · rw [a2 b (by omega), sr_ne (by omega)]
      exact t3b
    · rw [a2 q (by omega), sr_ne (by omega), t3q q (by omega) (by omega)]
  · have hle : nI (M 1) ≤ nI k := nI_le (by omega) (by omega)
    rw [if_pos hle, if_pos hle]
    have ef : fastN (flipN M (drD z)) k = flipN M (drD z) := if_neg (by rw [f1]; exact c)
    obtain ⟨a1, a2, a3⟩ := c_passTick (N := N) okf (by rw [f0]; exact hT) hN st3
    refine ⟨?_, ?_, fun q hq => ?_, a3, trivial⟩
    · unfold nightN
      rw [hk, ef]
      exact a1
    · rw [a2 b (by omega)]
      exact t3b
    · rw [a2 q (by omega), t3q q (by omega) (by omega)]
theorem l_nights {N n T : Nat} {M : Nat → Nat} {z : Int32} (ok : okT T M) (hT : M 0 + n ≤ 99999) (hN : 9 ≤ N) : ∀ d i fuel (τ : tw_T), i + d = n → d < fuel → stC τ 1 (nsM M z i) → τ 1 3 = nsZ z i →
    lf_X8_nights_43 N fuel (nI n) (nI i) τ = nI (strA (nsM M z n)) ∧ stC (lg_X8_nights_43 N fuel (nI n) (nI i) τ) 1 (nsM M z n) ∧ (lg_X8_nights_43 N fuel (nI n) (nI i) τ) 1 3 = nsZ z n ∧ (∀ q, (q < 1 ∨ 13 ≤ q) → lg_X8_nights_43 N fuel (nI n) (nI i) τ q = τ q) ∧ lo_X8_nights_43 N fuel (nI n) (nI i) τ := by
  intro d
  induction d with
  | zero =>
    intro i fuel τ hi hf h hz
    obtain ⟨u, rfl⟩ : ∃ u, fuel = u + 1 := ⟨fuel - 1, by omega⟩
    have e : i = n := by omega
    subst e
    have okn := okT_ns (z := z) ok i
    have hle : nI i ≤ nI i := nI_le (Nat.le_refl i) (by omega)
    rw [lf_X8_nights_43, lg_X8_nights_43, lo_X8_nights_43, if_pos hle, if_pos hle, if_pos hle]
    obtain ⟨a1, a2⟩ := c_str (N := N) (f := 3) (g := fun j => nsM M z i (17 + 7 * j + 5)) (τ := τ) okn.2.1 h.2.1 (fun j hj => by rw [show 3 + 2 + j = 1 + 4 + j by omega]; exact h.2.2 j hj 5 (by decide)) (by have := okn.2.1; omega)
    exact ⟨a1, h, hz, fun _ _ => rfl, a2, trivial⟩
  | succ d ih =>
    intro i fuel τ hi hf h hz
    obtain ⟨u, rfl⟩ : ∃ u, fuel = u + 1 := ⟨fuel - 1, by omega⟩
    have him : i < n := by omega
    have hgt := nI_ge him (show n < 2 ^ 31 by omega)
    rw [lf_X8_nights_43, lg_X8_nights_43, lo_X8_nights_43, if_neg hgt, if_neg hgt, if_neg hgt, nI_1]
    obtain ⟨a1, a2, a3, a4⟩ := c_night (N := N) (okT_ns (z := z) ok i) (by rw [ns_0]; omega) hN h hz
    rw [← nsM_succ] at a1
    obtain ⟨b1, b2, b3, b4, b5⟩ := ih (i + 1) u _ (by omega) (by omega) a1 a2
    exact ⟨b1, b2, b3, fun q hq => by rw [b4 q hq, a3 q (by omega)], a4, b5⟩
