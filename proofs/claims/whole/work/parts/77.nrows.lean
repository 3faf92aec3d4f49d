/-! ===== the growing world: new cells ===== -/
def nset (c : Nat → Nat → Value) (k : Nat) (f : Nat → Value) : Nat → Nat → Value := fun i => if i = k then f else c i
theorem wD_push {cy : Nat → ClassId} {ρ : Nat → Nat} {n : Nat} {sh : Nat → Nat × Nat} {c : Nat → Nat → Value} {f : Nat → Value} : tw_wD cy ρ (n + 1) sh (nset c n f) = tw_wD cy ρ n sh c ++ [(ρ n, tw_cE cy ρ (sh n) f)] := by
  unfold tw_wD
  rw [List.range_succ, List.map_append]
  congr 1
  · refine List.map_congr_left (fun k hk => ?_)
    have := List.mem_range.mp hk
    unfold nset
    rw [if_neg (by omega)]
  · unfold nset
    simp
theorem tr_default (ρ : Nat → Nat) (t : FieldType) : tw_tr ρ (defaultValue t) = defaultValue t := by cases t <;> rfl
section NNEW
variable {K : tw_K} {M : Mt} {d : Nat} {pc : Nat} {ls st : List Value} {X : nw_X}
theorem nw_new (F : tw_FN K M d) {index ci : Nat} {q : vw_C} (ty : Nat → FieldType) (hd : decode M.2.1 pc = .ok (.new index, 3)) (hq : vwCl[ci]? = some q) (hty : ∀ k, k < q.2.2 → parseFieldDescriptor (q.2.1 k).2.2.1 = some (ty k)) (hsh : tw_sh X.1 = (ci, q.2.2)) (hn : X.1 < 202) (hcl : Cond.classLink M.1.cls index q.1 ∈ tw_gT) (hinst : Cond.instantiable q.1 q.2.2 ∈ tw_gT) (hini : Cond.initialized q.1 ∈ tw_gT) (hcells : X.2.2.1 + 1 ≤ K.2.2.1.1) (hslots : X.2.2.2 + q.2.2 ≤ K.2.2.1.2.1)
    (kk : tw_N K (pc + 3) ls (.ref X.1 :: st) (X.1 + 1, nset X.2.1 X.1 (fun j => defaultValue (ty j)), X.2.2.1 + 1, X.2.2.2 + q.2.2)) : tw_N K pc ls st X := by
  obtain ⟨⟨p, e, R, s, m, args⟩, ⟨below, meth, c⟩, ⟨cells, slots, Z⟩, ⟨l, D, cy, ρ⟩⟩ := K
  obtain ⟨⟨hx, hb, hml, hown, hts, hG, hR1, hR2, hR3, hR4⟩, hA⟩ := F
  obtain ⟨n, cc, cl, sl⟩ := X
  intro H locs la hP hS hL
  obtain ⟨hz, hP⟩ := hP
  obtain ⟨hcw, -, hnm⟩ := cw_all ci q hq
  have hKn := hG.2.1.1 ci _ hq
  have hz' : H.size = ρ 0 + n := hz
  have eρ : ρ n = H.size := by rw [hz']; exact hA.1 n hn
  refine W.newcK hx hb hown (hts _ hcl) (hts _ hinst) (hts _ hini) rfl hd (Nat.le_trans hcells hR3) (Nat.le_trans hslots hR4) hKn.2.1 rfl fun H1 kC hkC e1 z1 o1 => ?_
  have hk : ∀ (k : Nat) (x : Nat × va_E), (tw_wD cy ρ n tw_sh cc)[k]? = some x → H1[x.1]? = H[x.1]? := fun k x hx => o1 x.1 ((hP k x hx).lt)
  have hP1 : va_P D vwCl (tw_wD cy ρ (n + 1) tw_sh (nset cc n (fun j => defaultValue (ty j)))) H1 := by
    rw [wD_push, show tw_sh n = (ci, q.2.2) from hsh, cE_obj (vwCl_lt hq)]
    refine (hP.kept hk).app (fun k x hx => ?_)
    have hz : k < 1 := (List.getElem?_eq_some_iff.mp hx).1
    rw [show k = 0 by omega] at hx
    cases hx
    rw [eρ]
    exact ⟨_, hq, (u_born ty hts hcw hKn hkC e1 hty).to (fun j hj => by
      show defaultValue (ty j) = vp_V _ j
      simp [vp_V, tr_default, hj])⟩
  have h := kk H1 locs la ⟨by rw [z1, hz']; exact Nat.add_assoc _ _ _, hP1⟩ ⟨Nat.le_trans hS.1 (by omega), fun x h1 h2 => (o1 x (Nat.lt_of_lt_of_le h1 hS.1)).trans (hS.2.1 x h1 h2), hS.2.2⟩ hL
  rw [List.map_cons, show tw_tr ρ (.ref n) = .ref (ρ n) from rfl, eρ] at h
  exact h
end NNEW
