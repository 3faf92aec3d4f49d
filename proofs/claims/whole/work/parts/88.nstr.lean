/-! ===== the growing world: a string into an array of strings ===== -/
theorem self_assign {s : State} {c : ClassId} {k : Class} (h : s.vm.classes[c]? = some k) : s.vm.assignable c c = true := by
  unfold Vm.assignable
  cases hkind : k.kind with
  | _ => first | (unfold Vm.assignableAux; simp [h, hkind]; done) | (unfold Vm.assignableAux; simp [h, hkind, Vm.isSubclass, Vm.isSubclassAux]; done) | (unfold Vm.assignableAux; simp only [h, hkind]; rfl)
section NSTR
variable {K : tw_K} {M : Mt} {d : Nat} {pc : Nat} {ls st : List Value} {n cl sl : Nat} {c : Nat → Nat → Value}
theorem nx_aasts (F : tw_FN K M d) {k j r N : Nat} {i : Int32} (hd : decode M.2.1 pc = .ok (.aastore, 1)) (hk : k < n) (hr : r < 28) (hn : n ≤ 202) (hsh : tw_sh k = (14, N)) (hi : i = nI j) (hj : j < N) (hN : N < 1000) (kk : tw_N K (pc + 1) ls st (n, nput c k j (.ref (202 + r)), cl, sl)) : tw_N K pc ls (.ref (202 + r) :: .int i :: .ref k :: st) (n, c, cl, sl) := by
  obtain ⟨⟨p, e, R, s, m, args⟩, ⟨below, meth, cd⟩, ⟨cells, slots, Z⟩, ⟨l, D, cy, ρ⟩⟩ := K
  obtain ⟨⟨hx, hb, hml, hown, hts, hG, hR1, hR2, hR3, hR4⟩, hA⟩ := F
  subst hi
  intro H locs la hP hS hL
  obtain ⟨hz, hP⟩ := hP
  have hD := wD_Dn (cy := cy) (c := c) (sz := s.heap.size) hn hG.1
  have hK := hG.2.1
  have ecl : (nI j).toNatClampNeg = j := nI_clamp (by omega)
  have ha : (tw_wD cy ρ n tw_sh c)[k]? = some (ρ k, .inl (cy 4, N, .inr (.inr (.inr (.inr (fun i => tw_vr ρ (c k i))))))) := by rw [wD_get hk, hsh, cE_ref (by decide)]
  obtain ⟨cellV, g1, g3, g2, -⟩ := (hG.2.2.2.2.1 r hr).1.kept hS.2.1
  obtain ⟨kA, comp, k1, k2, k3, -⟩ := (hK.2 4 (cy 4, .object "java/lang/String") rfl).2
  have ec : comp = cellV.cls := Option.some.inj (k3.symm.trans g2)
  subst ec
  obtain ⟨kE, hkE, -⟩ := Vm.findClass_spec k3
  refine W.aast hx hb (hP k _ ha) (fun q h => by cases h) (fun h => by cases h) k1 k2 rfl hkE ⟨nI_pos (by omega), by rw [ecl]; show _ < (arrV _ _ _).slots.size; rw [arrV_size]; exact hj⟩ g1 (fun q h => by rw [h] at g3; cases g3) hkE (self_assign hkE) rfl rfl hd fun H1 e z oq => ?_
  have e2 : (tw_wD cy ρ n tw_sh c).set k (ρ k, .inl (cy 4, N, .inr (.inr (.inr (.inr (va_up (fun i => tw_vr ρ (c k i)) j (some (ρ (202 + r))))))))) = tw_wD cy ρ n tw_sh (nput c k j (.ref (202 + r))) := by
    have e3 : (Sum.inl (cy 4, N, .inr (.inr (.inr (.inr (va_up (fun i => tw_vr ρ (c k i)) j (some (ρ (202 + r)))))))) : va_E) = tw_cE cy ρ (tw_sh k) (fun i => if i = j then .ref (202 + r) else c k i) := by
      rw [hsh, cE_ref (by decide)]
      congr 7
      funext i
      unfold va_up
      split <;> rfl
    rw [e3, wD_set]
    rfl
  have hP1 : va_P D vwCl (tw_wD cy ρ n tw_sh (nput c k j (.ref (202 + r)))) H1 := by
    rw [← e2]
    refine hP.set hD ha ?_ oq
    show H1[ρ k]? = some (vp_cell _ _)
    rw [e, vp_cell_q, vp_cell_q, arrV_store, ecl]
    congr 2
    funext i
    by_cases hi : i = j
    · subst hi
      simp [updV, va_up, va_rf]
    · simp [updV, va_up, hi]
  exact kk H1 _ la ⟨by rw [z]; exact hz, hP1⟩ (hS.put z oq (Or.inl ⟨k, by omega, rfl⟩)) hL
end NSTR
