theorem sh_600 : ∀ k, k < 202 → (tw_sh k).2 ≤ 600 := by decide +kernel
section ROWS4
variable {K : tw_K} {M : Mt} {d : Nat} {Q : Option Value → tw_T → Prop} {pc : Nat} {ls st : List Value} {τ : tw_T}
theorem rw_inc (F : tw_F K M d Q) {i0 : Nat} {n : Int} {x n1 : Int32} (hd : decode M.2.1 pc = .ok (.iinc i0 n, 3)) (hl : ls[i0]? = some (.int x)) (hn : Int32.ofInt n = n1) (hi : i0 < M.2.2.1) (h2 : tw_n2 ls i0 = true) (k : tw_R K (pc + 3) (ls.set i0 (.int (x + n1))) st τ) : tw_R K pc ls st τ := rw_iinc F hd hl (by rw [hn]) hi h2 k
theorem rw_iaN (F : tw_F K M d Q) {k j : Nat} {i : Int32} (hd : decode M.2.1 pc = .ok (.iaload, 1)) (hk : tw_isK k 10 = true) (hi : i = nI j) (hj : j < (tw_sh k).2) (kk : tw_R K (pc + 1) ls (.int (τ k j) :: st) τ) : tw_R K pc ls (.int i :: .ref k :: st) τ := by
  have h6 := sh_600 k (isK_of hk).1
  subst hi
  refine rw_iald F hd hk (vp_in_nI hj (by omega)) ?_
  rw [nI_clamp (by omega)]
  exact kk
theorem rw_isN (F : tw_F K M d Q) {k j : Nat} {i v : Int32} (hd : decode M.2.1 pc = .ok (.iastore, 1)) (hk : tw_isK k 10 = true) (hi : i = nI j) (hj : j < (tw_sh k).2) (kk : tw_R K (pc + 1) ls st (tw_sr τ k (upd (τ k) j v))) : tw_R K pc ls (.int v :: .int i :: .ref k :: st) τ := by
  have h6 := sh_600 k (isK_of hk).1
  subst hi
  refine rw_iast F hd hk (vp_in_nI hj (by omega)) ?_
  rw [nI_clamp (by omega)]
  exact kk
theorem rw_aaN (F : tw_F K M d Q) {k t j r : Nat} {i : Int32} (hd : decode M.2.1 pc = .ok (.aaload, 1)) (hk : tw_isK k t = true) (ht : 10 < t) (hi : i = nI j) (hj : j < (tw_sh k).2) (hr : tw_lk k j = r + 1) (kk : tw_R K (pc + 1) ls (.ref r :: st) τ) : tw_R K pc ls (.int i :: .ref k :: st) τ := by
  have h6 := sh_600 k (isK_of hk).1
  subst hi
  refine rw_aald F hd hk ht (vp_in_nI hj (by omega)) ?_ kk
  rw [nI_clamp (by omega)]
  exact hr
theorem rw_tswc (v : Int32) (i tgt : Nat) (F : tw_F K M d Q) {dflt lo hi off : Int} {offs : Array Int} {len : Nat} {x : Int32} (hd : decode M.2.1 pc = .ok (.tableswitch dflt lo hi offs, len)) (ho : offs[i]? = some off) (hv : v.toInt = lo + (i : Int)) (ht : (pc : Int) + off = (tgt : Int)) (hh : lo + (i : Int) ≤ hi) (kt : x = v → tw_R K tgt ls st τ) (kf : ¬ x = v → tw_R K pc ls (.int x :: st) τ) : tw_R K pc ls (.int x :: st) τ := by
  by_cases h : x = v
  · refine rw_tsw F hd tgt (Or.inr ⟨⟨?_, ?_⟩, off, ?_, ht⟩) (kt h)
    · rw [h, hv]; omega
    · rw [h, hv]; omega
    · rw [h, hv]
      have e : (lo + (i : Int) - lo).toNat = i := by omega
      rw [e]
      exact ho
  · exact kf h
end ROWS4
def bI (p : Prop) [Decidable p] : Int32 := if p then 1 else 0
theorem bI_0 {p : Prop} [Decidable p] : bI p = 0 ↔ ¬ p := by unfold bI; split <;> simp_all
theorem bI_1 {p : Prop} [Decidable p] : bI p = 1 ↔ p := by unfold bI; split <;> simp_all
theorem bI_t {p : Prop} [Decidable p] (h : p) : bI p = 1 := if_pos h
theorem bI_f {p : Prop} [Decidable p] (h : ¬ p) : bI p = 0 := if_neg h
theorem bI_n {p : Prop} [Decidable p] : narrow .boolean (.int (bI p)) = .int (bI p) := by unfold bI; split <;> rfl
theorem i32_nlt {a b : Int32} : ¬ a < b ↔ b ≤ a := Int32.not_lt
theorem i32_nle {a b : Int32} : ¬ a ≤ b ↔ b < a := Int32.not_le
