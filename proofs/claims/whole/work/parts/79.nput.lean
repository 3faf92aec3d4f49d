/-! ===== the growing world: fields ===== -/
section NPUT
variable {K : tw_K} {M : Mt} {d : Nat} {pc : Nat} {ls st : List Value} {X : nw_X}
theorem wD_field {cy : Nat → ClassId} {ρ : Nat → Nat} {n k ci N j : Nat} {c : Nat → Nat → Value} {v : Value} (hci : ci < 10) (hsh : tw_sh k = (ci, N)) : (tw_wD cy ρ n tw_sh c).set k (ρ k, .inr (ci, ((List.range N).map (fun i => tw_tr ρ (c k i))).set j (tw_tr ρ v))) = tw_wD cy ρ n tw_sh (nset c k (fun i => if i = j then v else c k i)) := by
  have e : (Sum.inr (ci, ((List.range N).map (fun i => tw_tr ρ (c k i))).set j (tw_tr ρ v)) : va_E) = tw_cE cy ρ (tw_sh k) (fun i => if i = j then v else c k i) := by
    rw [hsh, cE_obj hci, fs_set]
  rw [e, wD_set]
  rfl
theorem nw_put (F : tw_FN K M d) {index ci k j : Nat} {q : vw_C} {ty : FieldType} {v : Value} (hd : decode M.2.1 pc = .ok (.putfield index, 3)) (hq : vwCl[ci]? = some q) (hj : j < q.2.2) (hk : k < X.1) (hn : X.1 ≤ 202) (hsh : tw_sh k = (ci, q.2.2)) (hw : Cond.fieldLink M.1.cls index (q.2.1 j).1 (q.2.1 j).2.1 (q.2.1 j).2.2.1 ∈ tw_gT) (hfin : (q.2.1 j).2.2.2 = false) (hdsc : parseFieldDescriptor (q.2.1 j).2.2.1 = some ty) (hnr : ∀ ρ, narrow ty (tw_tr ρ v) = tw_tr ρ v) (hf : ∀ ρ, fits ty (tw_tr ρ v) = true) (kk : tw_N K (pc + 3) ls st (X.1, nset X.2.1 k (fun i => if i = j then v else X.2.1 k i), X.2.2)) : tw_N K pc ls (v :: .ref k :: st) X := by
  obtain ⟨⟨p, e, R, s, m, args⟩, ⟨below, meth, c⟩, ⟨cells, slots, Z⟩, ⟨l, D, cy, ρ⟩⟩ := K
  obtain ⟨⟨hx, hb, hml, hown, hts, hG, hR1, hR2, hR3, hR4⟩, hA⟩ := F
  obtain ⟨n, cc, cl, sl⟩ := X
  obtain ⟨hcw, ⟨ty0, hty0⟩, hnm⟩ := cw_all ci q hq
  intro H locs la hP hS hL
  obtain ⟨hz, hP⟩ := hP
  have hD := wD_Dn (cy := cy) (c := cc) (sz := s.heap.size) hn hG.1
  have hK := hG.2.1
  have he : (tw_wD cy ρ n tw_sh cc)[k]? = some (ρ k, .inr (ci, (List.range q.2.2).map (fun i => tw_tr ρ (cc k i)))) := by rw [wD_get hk, hsh, cE_obj (vwCl_lt hq)]
  have hl : j < ((List.range q.2.2).map (fun i => tw_tr ρ (cc k i))).length := by simpa using hj
  have hap := va_apart (own := M.1.cls) hts hcw ty0 hty0 hnm hK hq
  obtain ⟨r, h1, cell, q1, q2, q3, q4⟩ := hP k _ he
  obtain rfl : r = q := Option.some.inj (h1.symm.trans hq)
  obtain ⟨hS1, hfc, kC, hkC, hkind⟩ := hK.1 ci _ hq
  obtain ⟨cf, kf, fi, f, hi, hsl⟩ := hS1 j hj
  have hlay := hts _ (hcw _ (u_in_lay hj))
  unfold u_lay at hlay
  rw [if_neg (by rw [hfin]; decide)] at hlay
  have hst := (u_facts hfc hkC (u_lays hts hcw hj) hi).1
  have h6 := u_store hfc hkC hkind hlay hi hdsc (hnr ρ) (hf ρ)
  refine W.putK hx hb (f := f) ⟨hown, hts _ hw, ⟨_, _, _, hi⟩, hst⟩ (by rw [q2]; exact h6) q1 q3 (by rw [hsl]; exact k2_hasslot (q4 j hj)) rfl rfl hd fun H' e1 e2 e3 => ?_
  rw [hsl] at e1 ⊢
  have hP1 := hP.set hD he (e := .inr (ci, ((List.range r.2.2).map (fun i => tw_tr ρ (cc k i))).set j (tw_tr ρ v))) ⟨_, hq, t_OB.to (V := updV (vp_V ((List.range r.2.2).map (fun i => tw_tr ρ (cc k i)))) j (tw_tr ρ v)) ⟨_, e1, q2, q3, t_set q4 hap hj (tw_tr ρ v)⟩ (fun i _ => vp_updV_set hl (tw_tr ρ v) i)⟩ e3
  rw [wD_field (vwCl_lt hq) hsh] at hP1
  exact kk H' _ la ⟨by rw [e2]; exact hz, hP1⟩ (hS.put e2 e3 (Or.inl ⟨k, by have : k < n := hk; have : n ≤ 202 := hn; omega, rfl⟩)) hL
theorem nw_putF (F : tw_FN K M d) (hinit : K.2.1.2.1.name = "<init>") {index ci k j : Nat} {q : vw_C} {ty : FieldType} {v : Value} (hd : decode M.2.1 pc = .ok (.putfield index, 3)) (hq : vwCl[ci]? = some q) (hj : j < q.2.2) (hk : k < X.1) (hn : X.1 ≤ 202) (hsh : tw_sh k = (ci, q.2.2)) (hw : Cond.fieldLink M.1.cls index (q.2.1 j).1 (q.2.1 j).2.1 (q.2.1 j).2.2.1 ∈ tw_gT) (hfin : (q.2.1 j).2.2.2 = true) (hdecl : (q.2.1 j).1 = M.1.cls) (hdsc : parseFieldDescriptor (q.2.1 j).2.2.1 = some ty) (hnr : ∀ ρ, narrow ty (tw_tr ρ v) = tw_tr ρ v) (hf : ∀ ρ, fits ty (tw_tr ρ v) = true) (kk : tw_N K (pc + 3) ls st (X.1, nset X.2.1 k (fun i => if i = j then v else X.2.1 k i), X.2.2)) : tw_N K pc ls (v :: .ref k :: st) X := by
  obtain ⟨⟨p, e, R, s, m, args⟩, ⟨below, meth, c⟩, ⟨cells, slots, Z⟩, ⟨l, D, cy, ρ⟩⟩ := K
  obtain ⟨⟨hx, hb, hml, hown, hts, hG, hR1, hR2, hR3, hR4⟩, hA⟩ := F
  obtain ⟨n, cc, cl, sl⟩ := X
  obtain ⟨hcw, ⟨ty0, hty0⟩, hnm⟩ := cw_all ci q hq
  intro H locs la hP hS hL
  obtain ⟨hz, hP⟩ := hP
  have hD := wD_Dn (cy := cy) (c := cc) (sz := s.heap.size) hn hG.1
  have hK := hG.2.1
  have he : (tw_wD cy ρ n tw_sh cc)[k]? = some (ρ k, .inr (ci, (List.range q.2.2).map (fun i => tw_tr ρ (cc k i)))) := by rw [wD_get hk, hsh, cE_obj (vwCl_lt hq)]
  have hl : j < ((List.range q.2.2).map (fun i => tw_tr ρ (cc k i))).length := by simpa using hj
  have hap := va_apart (own := M.1.cls) hts hcw ty0 hty0 hnm hK hq
  obtain ⟨r, h1, cell, q1, q2, q3, q4⟩ := hP k _ he
  obtain rfl : r = q := Option.some.inj (h1.symm.trans hq)
  obtain ⟨hS1, hfc, kC, hkC, hkind⟩ := hK.1 ci _ hq
  obtain ⟨cf, kf, fi, f, hi, hsl⟩ := hS1 j hj
  have hlay := hts _ (hcw _ (u_in_lay hj))
  unfold u_lay at hlay
  rw [if_pos hfin] at hlay
  have hst := (u_facts hfc hkC (u_lays hts hcw hj) hi).1
  have hcf : m.cls = cf := by
    obtain ⟨_, _, c', _, _, _, -, -, hf', -, -, -, hown2, -⟩ := Cond.laysFinal_spec hlay
    have e1 : c' = cf := by have := hi.symm.trans hf'; simp at this; exact this.1.symm
    rw [hdecl] at hown2
    rw [← e1]; exact Option.some.inj (hown.symm.trans hown2)
  have h6 := u_fits hfc hkC hkind (Or.inr hlay) hi hdsc (hnr ρ) (hf ρ)
  refine W.putFinK hx hb hown (hts _ hw) hi hst hcf hinit (by rw [q2]; exact h6) q1 q3 (by rw [hsl]; exact k2_hasslot (q4 j hj)) rfl rfl hd fun H' e1 e2 e3 => ?_
  rw [hsl] at e1 ⊢
  have hP1 := hP.set hD he (e := .inr (ci, ((List.range r.2.2).map (fun i => tw_tr ρ (cc k i))).set j (tw_tr ρ v))) ⟨_, hq, t_OB.to (V := updV (vp_V ((List.range r.2.2).map (fun i => tw_tr ρ (cc k i)))) j (tw_tr ρ v)) ⟨_, e1, q2, q3, t_set q4 hap hj (tw_tr ρ v)⟩ (fun i _ => vp_updV_set hl (tw_tr ρ v) i)⟩ e3
  rw [wD_field (vwCl_lt hq) hsh] at hP1
  exact kk H' _ la ⟨by rw [e2]; exact hz, hP1⟩ (hS.put e2 e3 (Or.inl ⟨k, by have : k < n := hk; have : n ≤ 202 := hn; omega, rfl⟩)) hL
theorem nw_getR (F : tw_FN K M d) {index ci k j r : Nat} {q : vw_C} (hd : decode M.2.1 pc = .ok (.getfield index, 3)) (hq : vwCl[ci]? = some q) (hj : j < q.2.2) (hk : k < X.1) (hn : X.1 ≤ 202) (hsh : tw_sh k = (ci, q.2.2)) (hw : Cond.fieldLink M.1.cls index (q.2.1 j).1 (q.2.1 j).2.1 (q.2.1 j).2.2.1 ∈ tw_gT) (hv : X.2.1 k j = .ref r) (kk : tw_N K (pc + 3) ls (.ref r :: st) X) : tw_N K pc ls (.ref k :: st) X := by
  obtain ⟨⟨p, e, R, s, m, args⟩, ⟨below, meth, c⟩, ⟨cells, slots, Z⟩, ⟨l, D, cy, ρ⟩⟩ := K
  obtain ⟨⟨hx, hb, hml, hown, hts, hG, hR1, hR2, hR3, hR4⟩, hA⟩ := F
  obtain ⟨n, cc, cl, sl⟩ := X
  obtain ⟨hcw, -, -⟩ := cw_all ci q hq
  intro H locs la hP hS hL
  have he : (tw_wD cy ρ n tw_sh cc)[k]? = some (ρ k, .inr (ci, (List.range q.2.2).map (fun i => tw_tr ρ (cc k i)))) := by rw [wD_get hk, hsh, cE_obj (vwCl_lt hq)]
  refine va_get (C := q.1) (T := q.2.1) (N := q.2.2) hx hb hts hcw hown hG.2.1 hP.2 k he hq j hj (hts _ hw) (fun _ h => h) (fs_at hj) hd ?_
  have e1 : tw_tr ρ (cc k j) = .ref (ρ r) := by rw [show cc k j = .ref r from hv]; rfl
  rw [e1]
  exact kk H locs la hP hS hL
end NPUT
