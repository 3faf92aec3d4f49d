/-! ===== the growing world ===== -/
abbrev nw_X : Type := Nat × (Nat → Nat → Value) × Nat × Nat
/-- the first X.1 cells of the world stand, with the contents X.2.1; so much was spent -/
def nw_P (cy : Nat → ClassId) (ρ : Nat → Nat) (D : va_G) (X : nw_X) (H : Heap) : Prop := H.size = ρ 0 + X.1 ∧ va_P D vwCl (tw_wD cy ρ X.1 tw_sh X.2.1) H
def tw_N (K : tw_K) (pc : Nat) (ls st : List Value) (X : nw_X) : Prop := match K with
  | ((p, e, R, s, m, args), (below, meth, c), (_, _, Z), (l, D, cy, ρ)) => ∀ (H : Heap) (locs : List Loc) (la : Array Slot), nw_P cy ρ D X H → va_S (tw_A ρ s.heap.size) s.heap H locs → tw_Lv la c.maxLocals (ls.map (tw_tr ρ)) → W p l e R s m args below meth c H locs X.2.2.1 X.2.2.2 Z (F0 m pc la (st.map (tw_tr ρ)))
/-- the world's addresses are known ahead -/
def nw_O (U : State) : Prop := ∀ C, C ∈ (["TwinLights$Ship", "TwinLights$Fleet", "TwinLights$Sheet", "java/lang/String"] : List String) → va_AO C U
def nw_A (K : tw_K) : Prop := match K with
  | ((_, _, _, s, _, _), _, _, (_, _, _, ρ)) => (∀ k, k < 202 → ρ k = ρ 0 + k) ∧ nw_O s
def tw_FN (K : tw_K) (M : Mt) (d : Nat) : Prop := tw_C K M.1.cls M.2.1 M.2.2.1 d ∧ nw_A K
section NROWS
variable {K : tw_K} {M : Mt} {d : Nat} {pc : Nat} {ls st : List Value} {X : nw_X}
theorem nw_iconst (F : tw_FN K M d) {n : Int} {v : Int32} (hd : decode M.2.1 pc = .ok (.iconst n, 1)) (hv : Int32.ofInt n = v) (k : tw_N K (pc + 1) ls (.int v :: st) X) : tw_N K pc ls (st) X := by
  obtain ⟨⟨p, e, R, s, m, args⟩, ⟨below, meth, c⟩, ⟨cells, slots, Z⟩, ⟨l, D, cy, ρ⟩⟩ := K
  obtain ⟨⟨hx, hb, hml, hown, hts, hG, hR1, hR2, hR3, hR4⟩, hRt⟩ := F
  intro H locs la hP hS hL
  exact lv_iconst hx hb hd hv (k H locs la hP hS hL)
theorem nw_bipush (F : tw_FN K M d) {n : Int} {v : Int32} (hd : decode M.2.1 pc = .ok (.bipush n, 2)) (hv : (Int8.ofInt n).toInt32 = v) (k : tw_N K (pc + 2) ls (.int v :: st) X) : tw_N K pc ls (st) X := by
  obtain ⟨⟨p, e, R, s, m, args⟩, ⟨below, meth, c⟩, ⟨cells, slots, Z⟩, ⟨l, D, cy, ρ⟩⟩ := K
  obtain ⟨⟨hx, hb, hml, hown, hts, hG, hR1, hR2, hR3, hR4⟩, hRt⟩ := F
  intro H locs la hP hS hL
  exact lv_bipush hx hb hd hv (k H locs la hP hS hL)
theorem nw_sipush (F : tw_FN K M d) {n : Int} {v : Int32} (hd : decode M.2.1 pc = .ok (.sipush n, 3)) (hv : (Int16.ofInt n).toInt32 = v) (k : tw_N K (pc + 3) ls (.int v :: st) X) : tw_N K pc ls (st) X := by
  obtain ⟨⟨p, e, R, s, m, args⟩, ⟨below, meth, c⟩, ⟨cells, slots, Z⟩, ⟨l, D, cy, ρ⟩⟩ := K
  obtain ⟨⟨hx, hb, hml, hown, hts, hG, hR1, hR2, hR3, hR4⟩, hRt⟩ := F
  intro H locs la hP hS hL
  exact lv_sipush hx hb hd hv (k H locs la hP hS hL)
theorem nw_iload_n (F : tw_FN K M d) {k0 : Fin 4} {x : Int32} (hd : decode M.2.1 pc = .ok (.iload_n k0, 1)) (hl : ls[(k0 : Nat)]? = some (.int x)) (k : tw_N K (pc + 1) ls (.int x :: st) X) : tw_N K pc ls (st) X := by
  obtain ⟨⟨p, e, R, s, m, args⟩, ⟨below, meth, c⟩, ⟨cells, slots, Z⟩, ⟨l, D, cy, ρ⟩⟩ := K
  obtain ⟨⟨hx, hb, hml, hown, hts, hG, hR1, hR2, hR3, hR4⟩, hRt⟩ := F
  intro H locs la hP hS hL
  exact lv_iload_n hx hb hd rfl (Lv_at hL hl (by simp)) (k H locs la hP hS hL)
theorem nw_istore_n (F : tw_FN K M d) {k0 : Fin 4} {x : Int32} (hd : decode M.2.1 pc = .ok (.istore_n k0, 1)) (hi : (k0 : Nat) < M.2.2.1) (h2 : tw_n2 ls (k0 : Nat) = true) (k : tw_N K (pc + 1) (ls.set (k0 : Nat) (.int x)) st X) : tw_N K pc ls (.int x :: st) X := by
  obtain ⟨⟨p, e, R, s, m, args⟩, ⟨below, meth, c⟩, ⟨cells, slots, Z⟩, ⟨l, D, cy, ρ⟩⟩ := K
  obtain ⟨⟨hx, hb, hml, hown, hts, hG, hR1, hR2, hR3, hR4⟩, hRt⟩ := F
  intro H locs la hP hS hL
  refine lv_istore_n hx hb hd rfl (Lv_has hL) (by rw [hml]; exact hi) rfl (fun la' h' => ?_)
  exact k H locs la' hP hS (by rw [List.map_set]; exact Lv_of_store (la := la) (n2_tr h2) h')
theorem nw_aload_n (F : tw_FN K M d) {k0 : Fin 4} {x : Nat} (hd : decode M.2.1 pc = .ok (.aload_n k0, 1)) (hl : ls[(k0 : Nat)]? = some (.ref x)) (k : tw_N K (pc + 1) ls (.ref x :: st) X) : tw_N K pc ls (st) X := by
  obtain ⟨⟨p, e, R, s, m, args⟩, ⟨below, meth, c⟩, ⟨cells, slots, Z⟩, ⟨l, D, cy, ρ⟩⟩ := K
  obtain ⟨⟨hx, hb, hml, hown, hts, hG, hR1, hR2, hR3, hR4⟩, hRt⟩ := F
  intro H locs la hP hS hL
  exact lv_aload_n hx hb hd rfl (Lv_at hL hl (by simp)) (k H locs la hP hS hL)
theorem nw_astore_n (F : tw_FN K M d) {k0 : Fin 4} {x : Nat} (hd : decode M.2.1 pc = .ok (.astore_n k0, 1)) (hi : (k0 : Nat) < M.2.2.1) (h2 : tw_n2 ls (k0 : Nat) = true) (k : tw_N K (pc + 1) (ls.set (k0 : Nat) (.ref x)) st X) : tw_N K pc ls (.ref x :: st) X := by
  obtain ⟨⟨p, e, R, s, m, args⟩, ⟨below, meth, c⟩, ⟨cells, slots, Z⟩, ⟨l, D, cy, ρ⟩⟩ := K
  obtain ⟨⟨hx, hb, hml, hown, hts, hG, hR1, hR2, hR3, hR4⟩, hRt⟩ := F
  intro H locs la hP hS hL
  refine lv_astore_n hx hb hd rfl (Lv_has hL) (by rw [hml]; exact hi) rfl (fun la' h' => ?_)
  exact k H locs la' hP hS (by rw [List.map_set]; exact Lv_of_store (la := la) (n2_tr h2) h')
theorem nw_iinc (F : tw_FN K M d) {i0 : Nat} {n : Int} {x v : Int32} (hd : decode M.2.1 pc = .ok (.iinc i0 n, 3)) (hl : ls[i0]? = some (.int x)) (hv : x + Int32.ofInt n = v) (hi : i0 < M.2.2.1) (h2 : tw_n2 ls i0 = true) (k : tw_N K (pc + 3) (ls.set i0 (.int v)) st X) : tw_N K pc ls st X := by
  obtain ⟨⟨p, e, R, s, m, args⟩, ⟨below, meth, c⟩, ⟨cells, slots, Z⟩, ⟨l, D, cy, ρ⟩⟩ := K
  obtain ⟨⟨hx, hb, hml, hown, hts, hG, hR1, hR2, hR3, hR4⟩, hRt⟩ := F
  intro H locs la hP hS hL
  have hm : (i0, Value.int x) ∈ tw_as (ls.map (tw_tr ρ)) := as_mem.mpr ⟨by rw [List.getElem?_map, hl]; rfl, by simp⟩
  obtain ⟨j, hj⟩ := List.getElem?_of_mem hm
  refine lv_iinc hx hb hd (Lv_has hL) hj hv (by rw [hml]; exact hi) rfl (fun la' h' => ?_)
  exact k H locs la' hP hS (by rw [List.map_set]; exact Lv_of_store (la := la) (n2_tr h2) h')
theorem nw_iadd (F : tw_FN K M d) {x y : Int32} (hd : decode M.2.1 pc = .ok (.iadd, 1))  (k : tw_N K (pc + 1) ls (.int (x + y) :: st) X) : tw_N K pc ls (.int y :: .int x :: st) X := by
  obtain ⟨⟨p, e, R, s, m, args⟩, ⟨below, meth, c⟩, ⟨cells, slots, Z⟩, ⟨l, D, cy, ρ⟩⟩ := K
  obtain ⟨⟨hx, hb, hml, hown, hts, hG, hR1, hR2, hR3, hR4⟩, hRt⟩ := F
  intro H locs la hP hS hL
  exact lv_iadd hx hb hd  (k H locs la hP hS hL)
theorem nw_dup (F : tw_FN K M d) {v : Value} (hd : decode M.2.1 pc = .ok (.dup, 1)) (hv : v.category = 1) (k : tw_N K (pc + 1) ls (v :: v :: st) X) : tw_N K pc ls (v :: st) X := by
  obtain ⟨⟨p, e, R, s, m, args⟩, ⟨below, meth, c⟩, ⟨cells, slots, Z⟩, ⟨l, D, cy, ρ⟩⟩ := K
  obtain ⟨⟨hx, hb, hml, hown, hts, hG, hR1, hR2, hR3, hR4⟩, hRt⟩ := F
  intro H locs la hP hS hL
  exact lv_dup hx hb hd (by rw [tr_cat]; exact hv) (k H locs la hP hS hL)
theorem nw_icmp_ge (F : tw_FN K M d) {x y : Int32} {off : Int} {tgt : Nat} (hd : decode M.2.1 pc = .ok (.if_icmp .ge off, 3)) (ht : (pc : Int) + off = (tgt : Int)) (kt : y ≤ x → tw_N K tgt ls st X) (kf : ¬ y ≤ x → tw_N K (pc + 3) ls st X) : tw_N K pc ls (.int y :: .int x :: st) X := by
  obtain ⟨⟨p, e, R, s, m, args⟩, ⟨below, meth, c⟩, ⟨cells, slots, Z⟩, ⟨l, D, cy, ρ⟩⟩ := K
  obtain ⟨⟨hx, hb, hml, hown, hts, hG, hR1, hR2, hR3, hR4⟩, hRt⟩ := F
  intro H locs la hP hS hL
  exact lv_icmp_ge hx hb hd ht (fun h => kt h H locs la hP hS hL) (fun h => kf h H locs la hP hS hL)
theorem nw_icmp_gt (F : tw_FN K M d) {x y : Int32} {off : Int} {tgt : Nat} (hd : decode M.2.1 pc = .ok (.if_icmp .gt off, 3)) (ht : (pc : Int) + off = (tgt : Int)) (kt : y < x → tw_N K tgt ls st X) (kf : ¬ y < x → tw_N K (pc + 3) ls st X) : tw_N K pc ls (.int y :: .int x :: st) X := by
  obtain ⟨⟨p, e, R, s, m, args⟩, ⟨below, meth, c⟩, ⟨cells, slots, Z⟩, ⟨l, D, cy, ρ⟩⟩ := K
  obtain ⟨⟨hx, hb, hml, hown, hts, hG, hR1, hR2, hR3, hR4⟩, hRt⟩ := F
  intro H locs la hP hS hL
  exact lv_icmp_gt hx hb hd ht (fun h => kt h H locs la hP hS hL) (fun h => kf h H locs la hP hS hL)
theorem nw_goto (F : tw_FN K M d) {off : Int} {tgt : Nat} (hd : decode M.2.1 pc = .ok (.goto off, 3)) (ht : (pc : Int) + off = (tgt : Int)) (k : tw_N K tgt ls st X) : tw_N K pc ls st X := by
  obtain ⟨⟨p, e, R, s, m, args⟩, ⟨below, meth, c⟩, ⟨cells, slots, Z⟩, ⟨l, D, cy, ρ⟩⟩ := K
  obtain ⟨⟨hx, hb, hml, hown, hts, hG, hR1, hR2, hR3, hR4⟩, hRt⟩ := F
  intro H locs la hP hS hL
  exact lv_goto hx hb hd ht (k H locs la hP hS hL)
theorem nw_ldcS (F : tw_FN K M d) {index : Nat} {tx : String} (i : Nat) (hd : decode M.2.1 pc = .ok (.ldc index, 2)) (hs : tw_strs[i]? = some (M.1.cls, index, tx)) (k : tw_N K (pc + 2) ls (.ref (202 + i) :: st) X) : tw_N K pc ls st X := by
  obtain ⟨⟨p, e, R, s, m, args⟩, ⟨below, meth, c⟩, ⟨cells, slots, Z⟩, ⟨l, D, cy, ρ⟩⟩ := K
  obtain ⟨⟨hx, hb, hml, hown, hts, hG, hR1, hR2, hR3, hR4⟩, hRt⟩ := F
  intro H locs la hP hS hL
  exact va_ldcS hx hb hown (hG.2.2.2.1 i _ hs) hd (k H locs la hP hS hL)
end NROWS
