/-! ===== the growing world: objects into arrays, ends, calls ===== -/
section NAST
variable {K : tw_K} {M : Mt} {d : Nat} {pc : Nat} {ls st : List Value} {X : nw_X}
theorem nw_aast (F : tw_FN K M d) {k j r t ci N : Nat} {q : vw_C} {i : Int32} (hd : decode M.2.1 pc = .ok (.aastore, 1)) (hk : k < X.1) (hr : r < X.1) (hn : X.1 ≤ 202) (ht : 10 < t) (hsh : tw_sh k = (t, N)) (hq : vwCl[ci]? = some q) (hshr : tw_sh r = (ci, q.2.2)) (hC : ∀ cy, (tw_tys cy)[t - 10]? = some (cy (t - 10), .object q.1)) (hi : i = nI j) (hj : j < N) (hN : N < 1000) (kk : tw_N K (pc + 1) ls st (X.1, nset X.2.1 k (fun i => if i = j then .ref r else X.2.1 k i), X.2.2)) : tw_N K pc ls (.ref r :: .int i :: .ref k :: st) X := by
  obtain ⟨⟨p, e, R, s, m, args⟩, ⟨below, meth, c⟩, ⟨cells, slots, Z⟩, ⟨l, D, cy, ρ⟩⟩ := K
  obtain ⟨⟨hx, hb, hml, hown, hts, hG, hR1, hR2, hR3, hR4⟩, hA⟩ := F
  obtain ⟨n, cc, cl, sl⟩ := X
  subst hi
  intro H locs la hP hS hL
  obtain ⟨hz, hP⟩ := hP
  have hD := wD_Dn (cy := cy) (c := cc) (sz := s.heap.size) hn hG.1
  have hK := hG.2.1
  have ecl : (nI j).toNatClampNeg = j := nI_clamp (by omega)
  have ha : (tw_wD cy ρ n tw_sh cc)[k]? = some (ρ k, .inl (cy (t - 10), N, .inr (.inr (.inr (.inr (fun i => tw_vr ρ (cc k i))))))) := by rw [wD_get hk, hsh, cE_ref ht]
  have hv : (tw_wD cy ρ n tw_sh cc)[r]? = some (ρ r, .inr (ci, (List.range q.2.2).map (fun i => tw_tr ρ (cc r i)))) := by rw [wD_get hr, hshr, cE_obj (vwCl_lt hq)]
  obtain ⟨r', hr', cellV, g1, g2, g3, -⟩ := hP r _ hv
  have hcls := (hK.1 ci q hq).2
  obtain ⟨kA, comp, k1, k2, k3, -⟩ := (hK.2 (t - 10) _ (hC cy)).2
  obtain rfl : comp = D.1 ci := Option.some.inj (k3.symm.trans hcls.1)
  obtain ⟨kC, hkC, -⟩ := hcls.2
  refine W.aast hx hb (hP k _ ha) (fun q h => by cases h) (fun h => by cases h) k1 k2 rfl hkC ⟨nI_pos (by omega), by rw [ecl]; show _ < (arrV _ _ _).slots.size; rw [arrV_size]; exact hj⟩ g1 (fun q h => by rw [g3] at h; cases h) (by rw [g2]; exact hkC) (by rw [g2]; exact va_assign hcls) rfl rfl hd fun H1 e z oq => ?_
  have e2 : (tw_wD cy ρ n tw_sh cc).set k (ρ k, .inl (cy (t - 10), N, .inr (.inr (.inr (.inr (va_up (fun i => tw_vr ρ (cc k i)) j (some (ρ r)))))))) = tw_wD cy ρ n tw_sh (nset cc k (fun i => if i = j then .ref r else cc k i)) := by
    have e3 : (Sum.inl (cy (t - 10), N, .inr (.inr (.inr (.inr (va_up (fun i => tw_vr ρ (cc k i)) j (some (ρ r))))))) : va_E) = tw_cE cy ρ (tw_sh k) (fun i => if i = j then .ref r else cc k i) := by
      rw [hsh, cE_ref ht]
      congr 7
      funext i
      unfold va_up
      split <;> rfl
    rw [e3, wD_set]
    rfl
  have hP1 : va_P D vwCl (tw_wD cy ρ n tw_sh (nset cc k (fun i => if i = j then .ref r else cc k i))) H1 := by
    rw [← e2]
    refine hP.set hD ha ?_ oq
    show H1[ρ k]? = some (vp_cell _ _)
    rw [e, vp_cell_q, vp_cell_q, arrV_store, ecl]
    congr 2
    funext i
    by_cases hi : i = j
    · subst hi
      simp [updV, va_up, va_rf]
    · simp [updV, va_up, hi]
  exact kk H1 _ la ⟨by rw [z]; exact hz, hP1⟩ (hS.put z oq (Or.inl ⟨k, by have : k < n := hk; have : n ≤ 202 := hn; omega, rfl⟩)) hL
end NAST
