/-! ===== the growing world: new arrays ===== -/
theorem wD_Dn {cy : Nat → ClassId} {ρ : Nat → Nat} {n sz : Nat} {c : Nat → Nat → Value} (hn : n ≤ 202) (hinj : ∀ i j : Nat, i < 202 → j < 202 → ρ i = ρ j → i = j) : va_D (tw_A ρ sz) (tw_wD cy ρ n tw_sh c) := wD_D (fun i j hi hj h => hinj i j (by omega) (by omega) h) (fun k hk => Or.inl ⟨k, by omega, rfl⟩)
section NARR
variable {K : tw_K} {M : Mt} {d : Nat} {pc : Nat} {ls st : List Value} {X : nw_X}
theorem nw_newa (F : tw_FN K M d) {i : Int32} {N : Nat} (hd : decode M.2.1 pc = .ok (.newarray .int, 2)) (hw : Cond.arrayClass .int ∈ tw_gT) (hi : i = nI N) (hN : N < 1000) (hsh : tw_sh X.1 = (10, N)) (hn : X.1 < 202) (hcells : X.2.2.1 + 1 ≤ K.2.2.1.1) (hslots : X.2.2.2 + N ≤ K.2.2.1.2.1)
    (kk : tw_N K (pc + 2) ls (.ref X.1 :: st) (X.1 + 1, nset X.2.1 X.1 (fun _ => .int 0), X.2.2.1 + 1, X.2.2.2 + N)) : tw_N K pc ls (.int i :: st) X := by
  obtain ⟨⟨p, e, R, s, m, args⟩, ⟨below, meth, c⟩, ⟨cells, slots, Z⟩, ⟨l, D, cy, ρ⟩⟩ := K
  obtain ⟨⟨hx, hb, hml, hown, hts, hG, hR1, hR2, hR3, hR4⟩, hA⟩ := F
  obtain ⟨n, cc, cl, sl⟩ := X
  subst hi
  intro H locs la hP hS hL
  obtain ⟨hz, hP⟩ := hP
  have hz' : H.size = ρ 0 + n := hz
  have eρ : ρ n = H.size := by rw [hz']; exact hA.1 n hn
  refine va_newaK (atype := .int) hx hb (hts (Cond.arrayClass .int) hw) rfl hd rfl (nI_pos (by omega)) (nI_clamp (by omega)) (by show N * 4 ≤ _; omega) (Nat.le_trans hcells hR3) (Nat.le_trans hslots hR4) rfl fun H1 cA e1 z1 o1 hAr hNm => ?_
  have hcy : cA = cy 0 := by
    have h := (hG.2.1.2 0 (cy 0, .int) rfl).2
    exact Option.some.inj (hNm.symm.trans h)
  subst hcy
  have hk : ∀ (k : Nat) (x : Nat × va_E), (tw_wD cy ρ n tw_sh cc)[k]? = some x → H1[x.1]? = H[x.1]? := fun k x hx => o1 x.1 ((hP k x hx).lt)
  have hP1 : va_P D vwCl (tw_wD cy ρ (n + 1) tw_sh (nset cc n (fun _ => .int 0))) H1 := by
    rw [wD_push, show tw_sh n = (10, N) from hsh, cE_int]
    refine (hP.kept hk).app (fun k x hx => ?_)
    have hz : k < 1 := (List.getElem?_eq_some_iff.mp hx).1
    rw [show k = 0 by omega] at hx
    cases hx
    rw [eρ]
    exact e1
  have h := kk H1 locs la ⟨by rw [z1, hz']; exact Nat.add_assoc _ _ _, hP1⟩ ⟨Nat.le_trans hS.1 (by omega), fun x h1 h2 => (o1 x (Nat.lt_of_lt_of_le h1 hS.1)).trans (hS.2.1 x h1 h2), hS.2.2⟩ hL
  rw [List.map_cons, show tw_tr ρ (.ref n) = .ref (ρ n) from rfl, eρ] at h
  exact h
theorem nw_newq (F : tw_FN K M d) {index t : Nat} {C : String} {i : Int32} {N : Nat} (hd : decode M.2.1 pc = .ok (.anewarray index, 3)) (hcl : Cond.classLink M.1.cls index C ∈ tw_gT) (hov : C ∈ (["TwinLights$Ship", "TwinLights$Fleet", "TwinLights$Sheet", "java/lang/String"] : List String)) (ht : 10 < t) (hC : ∀ cy, (tw_tys cy)[t - 10]? = some (cy (t - 10), .object C)) (hi : i = nI N) (hN : N < 1000) (hsh : tw_sh X.1 = (t, N)) (hn : X.1 < 202) (hcells : X.2.2.1 + 1 ≤ K.2.2.1.1) (hslots : X.2.2.2 + N ≤ K.2.2.1.2.1)
    (kk : tw_N K (pc + 3) ls (.ref X.1 :: st) (X.1 + 1, nset X.2.1 X.1 (fun _ => .null), X.2.2.1 + 1, X.2.2.2 + N)) : tw_N K pc ls (.int i :: st) X := by
  obtain ⟨⟨p, e, R, s, m, args⟩, ⟨below, meth, c⟩, ⟨cells, slots, Z⟩, ⟨l, D, cy, ρ⟩⟩ := K
  obtain ⟨⟨hx, hb, hml, hown, hts, hG, hR1, hR2, hR3, hR4⟩, hA⟩ := F
  obtain ⟨n, cc, cl, sl⟩ := X
  subst hi
  intro H locs la hP hS hL
  obtain ⟨hz, hP⟩ := hP
  have hz' : H.size = ρ 0 + n := hz
  have eρ : ρ n = H.size := by rw [hz']; exact hA.1 n hn
  have ecl : (nI N).toNatClampNeg = N := nI_clamp (by omega)
  refine W.anew hx hb hown (hts _ hcl) (va_AO.use (hA.2 C hov)) rfl hd rfl (nI_pos (by omega)) (by rw [ecl]; omega) (Nat.le_trans hcells hR3) (by rw [ecl]; exact Nat.le_trans hslots hR4) fun cA kA comp f1 f2 f3 f4 => ?_
  rw [ecl]
  generalize hH1 : H.push ({ cls := cA, slots := Array.replicate N .null, vm := .none } : Cell) = H1
  have z1 : H1.size = H.size + 1 := by rw [← hH1, Array.size_push]
  have o1 : ∀ q : Nat, q < H.size → H1[q]? = H[q]? := fun q hq => by rw [← hH1, Array.getElem?_push, if_neg (Nat.ne_of_lt hq)]
  have e1 : H1[H.size]? = some (arrV cA N (fun _ => .null)) := by rw [← hH1, Array.getElem?_push_size, ← arrV_new]
  have hcy : cA = cy (t - 10) := by
    obtain ⟨kA', comp', -, -, -, h⟩ := (hG.2.1.2 (t - 10) _ (hC cy)).2
    exact Option.some.inj (f1.symm.trans h)
  subst hcy
  have hk : ∀ (k : Nat) (x : Nat × va_E), (tw_wD cy ρ n tw_sh cc)[k]? = some x → H1[x.1]? = H[x.1]? := fun k x hx => o1 x.1 ((hP k x hx).lt)
  have hP1 : va_P D vwCl (tw_wD cy ρ (n + 1) tw_sh (nset cc n (fun _ => .null))) H1 := by
    rw [wD_push, show tw_sh n = (t, N) from hsh, cE_ref ht]
    refine (hP.kept hk).app (fun k x hx => ?_)
    have hz : k < 1 := (List.getElem?_eq_some_iff.mp hx).1
    rw [show k = 0 by omega] at hx
    cases hx
    rw [eρ]
    show H1[H.size]? = some (vp_cell _ _)
    rw [vp_cell_q]
    exact e1
  have h := kk H1 locs la ⟨by rw [z1, hz']; exact Nat.add_assoc _ _ _, hP1⟩ ⟨Nat.le_trans hS.1 (by omega), fun x h1 h2 => (o1 x (Nat.lt_of_lt_of_le h1 hS.1)).trans (hS.2.1 x h1 h2), hS.2.2⟩ hL
  rw [List.map_cons, show tw_tr ρ (.ref n) = .ref (ρ n) from rfl, eρ] at h
  exact h
/-- what a store into an array of ints leaves -/
theorem nw_iast (F : tw_FN K M d) {k j N : Nat} {i v : Int32} (hd : decode M.2.1 pc = .ok (.iastore, 1)) (hk : k < X.1) (hn : X.1 ≤ 202) (hsh : tw_sh k = (10, N)) (hi : i = nI j) (hj : j < N) (hN : N < 1000) (kk : tw_N K (pc + 1) ls st (X.1, nset X.2.1 k (fun q => if q = j then .int v else X.2.1 k q), X.2.2)) : tw_N K pc ls (.int v :: .int i :: .ref k :: st) X := by
  obtain ⟨⟨p, e, R, s, m, args⟩, ⟨below, meth, c⟩, ⟨cells, slots, Z⟩, ⟨l, D, cy, ρ⟩⟩ := K
  obtain ⟨⟨hx, hb, hml, hown, hts, hG, hR1, hR2, hR3, hR4⟩, hA⟩ := F
  obtain ⟨n, cc, cl, sl⟩ := X
  subst hi
  intro H locs la hP hS hL
  obtain ⟨hz, hP⟩ := hP
  have hD := wD_Dn (cy := cy) (c := cc) (sz := s.heap.size) hn hG.1
  have ecl : (nI j).toNatClampNeg = j := nI_clamp (by omega)
  have ha : (tw_wD cy ρ n tw_sh cc)[k]? = some (ρ k, .inl (cy 0, N, .inl (fun q => tw_vi (cc k q)))) := by rw [wD_get hk, hsh, cE_int]
  refine W.iast hx hb (hP k _ ha) ((hG.2.1.2 0 (cy 0, .int) rfl).1 N (fun q => .int (tw_vi (cc k q)))) (fun q => by cases q) (by show ¬ (nI j < 0 ∨ (arrV _ _ _).slots.size ≤ _); rw [arrV_size]; exact (vp_in_nI hj (show N < 2 ^ 31 by omega) : vp_in (nI j) N)) rfl rfl hd fun H1 e z oq => ?_
  have e2 : (tw_wD cy ρ n tw_sh cc).set k (ρ k, .inl (cy 0, N, .inl (upd (fun q => tw_vi (cc k q)) j v))) = tw_wD cy ρ n tw_sh (nset cc k (fun q => if q = j then .int v else cc k q)) := by
    have e3 : (Sum.inl (cy 0, N, Sum.inl (upd (fun q => tw_vi (cc k q)) j v)) : va_E) = tw_cE cy ρ (tw_sh k) (fun q => if q = j then .int v else cc k q) := by
      rw [hsh, cE_int]
      congr 4
      funext q
      unfold upd
      split <;> rfl
    rw [e3, wD_set]
    rfl
  have hP1 : va_P D vwCl (tw_wD cy ρ n tw_sh (nset cc k (fun q => if q = j then .int v else cc k q))) H1 := by
    rw [← e2]
    refine hP.set hD ha ?_ oq
    show H1[ρ k]? = some (vp_cell _ _)
    rw [e, vp_cell_i, vp_cell_i, arrV_store, ecl]
    congr 2
    funext q
    by_cases hq : q = j
    · subst hq
      simp [updV, upd]
    · simp [updV, upd, hq]
  exact kk H1 _ la ⟨by rw [z]; exact hz, hP1⟩ (hS.put z oq (Or.inl ⟨k, by have : k < n := hk; have : n ≤ 202 := hn; omega, rfl⟩)) hL
end NARR
