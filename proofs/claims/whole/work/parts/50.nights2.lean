/-! ===== the call: nights, the reference, and both ===== -/
theorem m_draw {τ : tw_T} {z : Int32} (h : τ 191 2 = z) : f_X9_drawn τ = nI (drD z) ∧ g_X9_drawn τ = tw_sr τ 191 (upd (τ 191) 2 (drZ z)) := by
  unfold f_X9_drawn g_X9_drawn
  rw [sr_self, pk_us, h]
  exact ⟨dr_eq z, rfl⟩
theorem q_min5' {a : Nat} (h : a < 2 ^ 31) : (if nI a < nI 5 then nI a else nI 5) = nI (minN 5 a) := by
  simp (disch := omega) only [nI_ltI, q_ite]
  refine congrArg nI ?_
  unfold minN
  repeat' split
  all_goals omega
def oth2 (R R' : Nat → Int32) : Prop := ∀ j, ((7 ≤ j ∧ j < 17) ∨ 73 ≤ j) → R j = R' j
theorem ml_nights {N n T : Nat} {M : Nat → Nat} {z : Int32} (ok : okT T M) (hT : T + n < 2 ^ 30) (hN : 9 ≤ N) : ∀ d i fuel (τ : tw_T), i + d = n → d < fuel → rowT (τ 191) (nsM M z i) → τ 191 2 = nsZ z i →
    lf_X9_nights_39 N fuel (nI n) (nI i) τ = nI (strA (nsM M z n)) ∧ (∃ R, lg_X9_nights_39 N fuel (nI n) (nI i) τ = tw_sr τ 191 R ∧ rowT R (nsM M z n) ∧ R 2 = nsZ z n ∧ oth2 R (τ 191)) ∧ lo_X9_nights_39 N fuel (nI n) (nI i) τ := by
  intro d
  induction d with
  | zero =>
    intro i fuel τ hi hf h hz
    obtain ⟨u, rfl⟩ : ∃ u, fuel = u + 1 := ⟨fuel - 1, by omega⟩
    have e : i = n := by omega
    subst e
    have okn := okT_ns (z := z) ok i
    have hle : nI i ≤ nI i := nI_le (Nat.le_refl i) (by omega)
    rw [lf_X9_nights_39, lg_X9_nights_39, lo_X9_nights_39, if_pos hle, if_pos hle, if_pos hle]
    obtain ⟨s1, s2⟩ := m_strA (N := N) (τ := τ) okn h hN
    exact ⟨s1, ⟨τ 191, (sr_id τ 191).symm, h, hz, fun _ _ => rfl⟩, s2, trivial⟩
  | succ d ih =>
    intro i fuel τ hi hf h hz
    obtain ⟨u, rfl⟩ : ∃ u, fuel = u + 1 := ⟨fuel - 1, by omega⟩
    have him : i < n := by omega
    have hgt := nI_ge him (show n < 2 ^ 31 by omega)
    have okn := okT_ns (z := z) ok i
    rw [lf_X9_nights_39, lg_X9_nights_39, lo_X9_nights_39, if_neg hgt, if_neg hgt, if_neg hgt, nI_1]
    have hS := nsM_succ M z i
    have hZ : nsZ z (i + 1) = drZ (drZ (nsZ z i)) := rfl
    generalize nsM M z i = A at *
    generalize nsZ z i = y at *
    have hM1 := okn.2.1
    have l3 : A 3 < 4096 := okn.2.2 3 (by decide) (by decide) (by decide)
    have h3 : τ 191 3 = nI (A 3) := h 3 (by decide) (by decide)
    obtain ⟨d1, d2⟩ := m_draw hz
    have dl := drD_lt y
    have dl2 := drD_lt (drZ y)
    have m12 : drD y % 12 < 12 := Nat.mod_lt _ (by decide)
    have m8 : drD (drZ y) % 8 < 8 := Nat.mod_lt _ (by decide)
    have e12 : (nI (drD y) - nI (drD y) / 12 * 12 : Int32) = nI (drD y % 12) := by rw [q_12, pk_rem (by omega) (by decide) (by decide)]
    have ex : nI (A 3) ^^^ ((1 : Int32) <<< (nI (drD y % 12) &&& 31)) = nI (flipN A (drD y) 3) := by
      rw [q_bit (by omega), q_xor]
      unfold flipN
      rw [mU_self]
    simp only [d1, d2, e12, h3, ex, sr_self, sr_sr]
    generalize hτ2 : tw_sr τ 191 (upd (upd (τ 191) 2 (drZ y)) 3 (nI (flipN A (drD y) 3))) = τ2
    have hz2 : τ2 191 2 = drZ y := by rw [← hτ2, sr_self, pk_un (by decide), pk_us]
    obtain ⟨d3, d4⟩ := m_draw hz2
    have e8 : (nI (drD (drZ y)) - nI (drD (drZ y)) / 8 * 8 : Int32) = nI (drD (drZ y) % 8) := by rw [q_8, pk_rem (by omega) (by decide) (by decide)]
    simp only [d3, d4, e8]
    have hτ3r : tw_sr τ2 191 (upd (τ2 191) 2 (drZ (drZ y))) = tw_sr τ 191 (upd (upd (upd (τ 191) 2 (drZ y)) 3 (nI (flipN A (drD y) 3))) 2 (drZ (drZ y))) := by rw [← hτ2, sr_self, sr_sr]
    rw [hτ3r]
    have row3 : rowT (upd (upd (upd (τ 191) 2 (drZ y)) 3 (nI (flipN A (drD y) 3))) 2 (drZ (drZ y))) (flipN A (drD y)) := by
      intro j a b
      by_cases c : j = 3
      · subst c
        rw [pk_un (by decide), pk_us]
      · rw [pk_un (by omega), pk_un c, pk_un (by omega), h j a b]
        unfold flipN
        rw [mU_ne c]
    have oth3 : oth2 (upd (upd (upd (τ 191) 2 (drZ y)) 3 (nI (flipN A (drD y) 3))) 2 (drZ (drZ y))) (τ 191) := fun j hj => by rw [pk_un (by omega), pk_un (by omega), pk_un (by omega)]
    have z3 : (upd (upd (upd (τ 191) 2 (drZ y)) 3 (nI (flipN A (drD y) 3))) 2 (drZ (drZ y))) 2 = drZ (drZ y) := pk_us
    generalize hR3 : upd (upd (upd (τ 191) 2 (drZ y)) 3 (nI (flipN A (drD y) 3))) 2 (drZ (drZ y)) = R3 at *
    have okf := okT_flip (d := drD y) okn
    have f1 : flipN A (drD y) 1 = A 1 := mU_ne (by decide)
    generalize hk : drD (drZ y) % 8 = k at *
    have hsh : f_X9_isShip (nI k) (tw_sr τ 191 R3) = 0 ↔ ¬ k < A 1 := by
      unfold f_X9_isShip
      rw [sr_self, row3 1 (by decide) (by decide), f1]
      exact ship_lt (τ := τ) hM1 (by omega)
    by_cases c : k < A 1
    · have hc : ¬ f_X9_isShip (nI k) (tw_sr τ 191 R3) = 0 := fun q => hsh.mp q c
      have ea : ∀ τ', f_X9_shipAt (nI k) 3 τ' = nI (17 + 7 * k + 3) := fun τ' => m_at k 3 τ'
      have ei : f_X9_shipIs (nI k) 3 (tw_sr τ 191 R3) = nI (flipN A (drD y) (17 + 7 * k + 3)) := by
        rw [q_3, m_is (by omega), sr_self, row3 _ (by omega) (by omega)]
      have bs : flipN A (drD y) (17 + 7 * k + 3) < 6 := (okT_S okf (i := k) (by omega)).2.2.2.1
      have emin : (if nI (flipN A (drD y) (17 + 7 * k + 3)) + 1 < (5 : Int32) then nI (flipN A (drD y) (17 + 7 * k + 3)) + 1 else (5 : Int32)) = nI (minN 5 (flipN A (drD y) (17 + 7 * k + 3) + 1)) := by
        rw [nI_1]
        exact q_min5' (by omega)
      have ecl : (nI (17 + 7 * k + 3)).toNatClampNeg = 17 + 7 * k + 3 := nI_clamp (by omega)
      simp only [hc, if_false, ea, ei, emin, ecl, sr_self, sr_sr]
      have ef : fastN (flipN A (drD y)) k = mU (flipN A (drD y)) (17 + 7 * k + 3) (minN 5 (flipN A (drD y) (17 + 7 * k + 3) + 1)) := if_pos (by rw [f1]; exact c)
      have rowf : rowT (upd R3 (17 + 7 * k + 3) (nI (minN 5 (flipN A (drD y) (17 + 7 * k + 3) + 1)))) (fastN (flipN A (drD y)) k) := by
        rw [ef]
        intro j a b
        by_cases c : j = 17 + 7 * k + 3
        · rw [c, pk_us, mU_self]
        · rw [pk_un c, mU_ne c]
          exact row3 j a b
      obtain ⟨R, t1, t2, t3, t4⟩ := m_tick (N := N) (τ := tw_sr τ 191 (upd R3 (17 + 7 * k + 3) (nI (minN 5 (flipN A (drD y) (17 + 7 * k + 3) + 1))))) (okT_fast (k := k) okf) (by omega) hN (by rw [sr_self]; exact rowf)
      rw [sr_self] at t3
      rw [t1, sr_sr]
      have en : nightN A y = tickN (fastN (flipN A (drD y)) k) := by unfold nightN; rw [hk]
      obtain ⟨b1, ⟨R', b2, b3, b4, b5⟩, b6⟩ := ih (i + 1) u (tw_sr τ 191 R) (by omega) (by omega) (by rw [sr_self, hS, en]; exact t2) (by rw [sr_self, hZ, t3 2 (by decide), pk_un (by omega)]; exact z3)
      refine ⟨b1, ⟨R', by rw [b2, sr_sr], b3, b4, fun j hj => ?_⟩, m_pis (f := 3) (by omega) _, vp_in_nI (by omega) (by decide), t4, b6⟩
      rw [b5 j hj, sr_self, t3 j (by omega), pk_un (by omega), oth3 j hj]
    · have hc : f_X9_isShip (nI k) (tw_sr τ 191 R3) = 0 := hsh.mpr c
      have ef : fastN (flipN A (drD y)) k = flipN A (drD y) := if_neg (by rw [f1]; exact c)
      simp only [hc, if_true]
      obtain ⟨R, t1, t2, t3, t4⟩ := m_tick (N := N) (τ := tw_sr τ 191 R3) okf (by omega) hN (by rw [sr_self]; exact row3)
      rw [sr_self] at t3
      rw [t1, sr_sr]
      have en : nightN A y = tickN (flipN A (drD y)) := by unfold nightN; rw [hk, ef]
      obtain ⟨b1, ⟨R', b2, b3, b4, b5⟩, b6⟩ := ih (i + 1) u (tw_sr τ 191 R) (by omega) (by omega) (by rw [sr_self, hS, en]; exact t2) (by rw [sr_self, hZ, t3 2 (by decide)]; exact z3)
      refine ⟨b1, ⟨R', by rw [b2, sr_sr], b3, b4, fun j hj => ?_⟩, t4, b6⟩
      rw [b5 j hj, sr_self, t3 j (by omega), oth3 j hj]
theorem st_nights {c N : Nat} {τ : tw_T} (hI : Inv c τ) (hc : c < 512) (hN : 5000 ≤ N) (x1 : Int32) : p_X8_nights N x1 τ ∧ p_X9_nights N x1 (g_X8_nights N x1 τ) ∧ f_X8_nights N x1 τ = f_X9_nights N x1 (g_X8_nights N x1 τ) ∧ Inv (c + 1) (g_X9_nights N x1 (g_X8_nights N x1 τ)) := by
  obtain ⟨M, ok, row, spt, st, hz⟩ := inv_M hI
  have hM0 := ok.1
  unfold p_X8_nights p_X9_nights f_X9_nights g_X9_nights f_X8_nights g_X8_nights
  by_cases h : f_X8_within x1 1 20 τ = 0
  · obtain ⟨q1, q2⟩ := fail_B hI hc
    have h9 : ∀ τ', f_X9_within x1 1 20 τ' = 0 := fun τ' => h
    simp only [h, h9, if_true]
    exact ⟨trivial, ⟨q1, trivial⟩, rfl, q2⟩
  · have h9 : ∀ τ', ¬ f_X9_within x1 1 20 τ' = 0 := fun τ' => h
    obtain ⟨n, hn1, hn, rfl⟩ := w1_of (n := 20) rfl (by decide) h
    have et : τ 2 4 = nI (M 0) := st.1.2.2.2.2
    have e9 : τ 191 0 = nI (M 0) := row 0 (by decide) (by decide)
    have hle : nI (M 0) + nI n ≤ 99999 := by rw [nI_add, q_99999]; exact nI_le (by omega) (by decide)
    obtain ⟨a1, a2, a5, a3, a4⟩ := l_nights (N := N) (n := n) (T := 60 * c) (M := M) (z := τ 1 3) ok (by omega) (by omega) n 0 N τ (by omega) (by omega) st rfl
    have a1' : lf_X8_nights_43 N N (nI n) 0 τ = nI (strA (nsM M (τ 1 3) n)) := a1
    have a4' : lo_X8_nights_43 N N (nI n) 0 τ := a4
    have a2' : stC (lg_X8_nights_43 N N (nI n) 0 τ) 1 (nsM M (τ 1 3) n) := a2
    have a5' : (lg_X8_nights_43 N N (nI n) 0 τ) 1 3 = nsZ (τ 1 3) n := a5
    have a3' : ∀ q, (q < 1 ∨ 13 ≤ q) → lg_X8_nights_43 N N (nI n) 0 τ q = τ q := a3
    simp only [h, h9, et, hle, if_true, if_false]
    generalize hG : lg_X8_nights_43 N N (nI n) 0 τ = G at *
    have g191 : G 191 = τ 191 := a3' 191 (by decide)
    have e9' : G 191 0 = nI (M 0) := by rw [g191]; exact e9
    simp only [e9', hle, if_true]
    obtain ⟨b1, ⟨R, b2, b3, b4, b5⟩, b6⟩ := ml_nights (N := N) (n := n) (T := 60 * c) (M := M) (z := τ 1 3) ok (by omega) (by omega) n 0 N G (by omega) (by omega) (by rw [g191]; exact row) (by rw [g191]; exact hz.1.symm)
    have b1' : lf_X9_nights_39 N N (nI n) 0 G = nI (strA (nsM M (τ 1 3) n)) := b1
    have b2' : lg_X9_nights_39 N N (nI n) 0 G = tw_sr G 191 R := b2
    rw [g191] at b5
    have n1 := ns_1 M (τ 1 3) n
    refine ⟨a4', b6, a1'.trans b1'.symm, ?_⟩
    rw [b2']
    refine inv_of (M := nsM M (τ 1 3) n) hI hc (fun q hq => ?_) (okT_mono (okT_ns ok n) (by omega)) ?_ ?_ ⟨?_, ?_, fun i hi => ?_⟩ ⟨?_, fun i hi => ?_⟩
    · unfold keepC at hq
      rw [sr_ne (by omega), a3' q (by omega)]
    · rw [sr_self]; exact b3
    · rw [sr_self]
      intro i hi
      rw [b5 (7 + i) (by omega), n1]
      exact spt i hi
    · rw [sr_ne (by decide)]; exact a2'.1
    · rw [sr_ne (by decide)]; exact a2'.2.1
    · have := ok.2.1
      rw [sr_ne (by omega)]; exact a2'.2.2 i hi
    · rw [sr_self, sr_ne (by decide), a5', b4]
    · rw [sr_self, sr_ne (by decide), a3' (1 + 12) (by decide), b5 (7 + i) (by omega)]; exact hz.2 i hi
