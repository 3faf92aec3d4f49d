/-! ===== the facts of the start ===== -/
section START
variable {args : Array Value} {s : State}
theorem gT_of (hts : ∀ w ∈ lw_tbl, w.before args s = true) : ∀ w ∈ tw_gT, w.before args s = true := fun w hw => hts w (List.mem_filter.mp hw).1
theorem st_at (hgv : (Cond.and given_1 narrow_1).before args s = true) {i : Nat} {w : Cond} (h : nar[i]? = some w) : w.before args s = true := flat_of_before _ hgv w (List.mem_of_getElem? h)
theorem st_kn (hts : ∀ w ∈ lw_tbl, w.before args s = true) : ∀ ci : Nat, ∃ X : ClassId × (Nat → Nat), ∀ q : vw_C, vwCl[ci]? = some q → u_Kn s q.1 q.2.1 q.2.2 X.1 X.2 := by
  intro ci
  match ci with
  | 0 => obtain ⟨a, b, h⟩ := u_known (gT_of hts) cw_0 (gT_of hts _ is_0); exact ⟨(a, b), fun q hq => by cases hq; exact h⟩
  | 1 => obtain ⟨a, b, h⟩ := u_known (gT_of hts) cw_1 (gT_of hts _ is_1); exact ⟨(a, b), fun q hq => by cases hq; exact h⟩
  | 2 => obtain ⟨a, b, h⟩ := u_known (gT_of hts) cw_2 (gT_of hts _ is_2); exact ⟨(a, b), fun q hq => by cases hq; exact h⟩
  | 3 => obtain ⟨a, b, h⟩ := u_known (gT_of hts) cw_3 (gT_of hts _ is_3); exact ⟨(a, b), fun q hq => by cases hq; exact h⟩
  | 4 => obtain ⟨a, b, h⟩ := u_known (gT_of hts) cw_4 (gT_of hts _ is_4); exact ⟨(a, b), fun q hq => by cases hq; exact h⟩
  | 5 => obtain ⟨a, b, h⟩ := u_known (gT_of hts) cw_5 (gT_of hts _ is_5); exact ⟨(a, b), fun q hq => by cases hq; exact h⟩
  | 6 => obtain ⟨a, b, h⟩ := u_known (gT_of hts) cw_6 (gT_of hts _ is_6); exact ⟨(a, b), fun q hq => by cases hq; exact h⟩
  | 7 => obtain ⟨a, b, h⟩ := u_known (gT_of hts) cw_7 (gT_of hts _ is_7); exact ⟨(a, b), fun q hq => by cases hq; exact h⟩
  | 8 => obtain ⟨a, b, h⟩ := u_known (gT_of hts) cw_8 (gT_of hts _ is_8); exact ⟨(a, b), fun q hq => by cases hq; exact h⟩
  | 9 => obtain ⟨a, b, h⟩ := u_known (gT_of hts) cw_9 (gT_of hts _ is_9); exact ⟨(a, b), fun q hq => by cases hq; exact h⟩
  | k + 10 => exact ⟨(0, fun _ => 0), fun q hq => by simp [vwCl] at hq⟩
theorem st_ao {C : String} (h : va_AO C s) : ∃ cA : ClassId, ArrOfT s cA (.object C) ∧ va_RA s cA (.object C) := by
  obtain ⟨comp, cA, kA, h1, -, h3, h4, h5⟩ := Cond.arrayOver_spec h
  exact ⟨cA, fun N z => ⟨(fun k h => by cases h), kA, h3, comp, h4⟩, kA, comp, h3, h4, h1, h5⟩
theorem st_ai (h : (Cond.arrayClass .int).before args s = true) : ∃ cA : ClassId, ArrOfT s cA .int ∧ va_RA s cA .int := by
  obtain ⟨cA, kA, comp, h1, h2, h3⟩ := Cond.arrayClass_spec h
  exact ⟨cA, fun N z => ⟨(fun k h => by cases h), kA, h2, comp, h3⟩, h1⟩
theorem st_O (hts : ∀ w ∈ lw_tbl, w.before args s = true) : nw_O s := by
  unfold nw_O
  refine List.forall_mem_cons.mpr ⟨va_AO.of (hts _ (tbl_1 68 rfl)), ?_⟩
  refine List.forall_mem_cons.mpr ⟨va_AO.of (hts _ (tbl_1 200 rfl)), ?_⟩
  refine List.forall_mem_cons.mpr ⟨va_AO.of (hts _ (tbl_1 169 rfl)), ?_⟩
  refine List.forall_mem_cons.mpr ⟨va_AO.of (hts _ (tbl_4 162 rfl)), ?_⟩
  exact fun _ h => absurd h List.not_mem_nil
theorem st_K (hts : ∀ w ∈ lw_tbl, w.before args s = true) : ∃ (D : va_G) (cy : Nat → ClassId), va_K D vwCl (tw_tys cy) s := by
  obtain ⟨f, hf⟩ := Classical.axiomOfChoice (st_kn hts)
  obtain ⟨c0, h0⟩ := st_ai (hts _ (tbl_1 141 rfl))
  obtain ⟨c1, h1⟩ := st_ao (st_O hts _ (List.mem_of_getElem? (i := 0) rfl))
  obtain ⟨c2, h2⟩ := st_ao (st_O hts _ (List.mem_of_getElem? (i := 1) rfl))
  obtain ⟨c3, h3⟩ := st_ao (st_O hts _ (List.mem_of_getElem? (i := 2) rfl))
  obtain ⟨c4, h4⟩ := st_ao (st_O hts _ (List.mem_of_getElem? (i := 3) rfl))
  refine ⟨(fun c => (f c).1, fun c => (f c).2), fun k => ([c0, c1, c2, c3, c4] : List ClassId).getD k c0, fun c q hq => hf c q hq, fun k q hk => ?_⟩
  match k, hk with
  | 0, hk => cases hk; exact h0
  | 1, hk => cases hk; exact h1
  | 2, hk => cases hk; exact h2
  | 3, hk => cases hk; exact h3
  | 4, hk => cases hk; exact h4
  | k + 5, hk => simp [tw_tys] at hk
set_option maxRecDepth 10000 in
theorem st_N (hts : ∀ w ∈ lw_tbl, w.before args s = true) : ∀ w ∈ tw_nest, va_Nw (.methodLinkNest w.1 w.2.1 w.2.2 "TwinLights") s := by
  unfold tw_nest
  refine List.forall_mem_cons.mpr ⟨va_Nw.of rfl (hts _ (tbl_1 34 rfl)), ?_⟩
  refine List.forall_mem_cons.mpr ⟨va_Nw.of rfl (hts _ (tbl_1 70 rfl)), ?_⟩
  refine List.forall_mem_cons.mpr ⟨va_Nw.of rfl (hts _ (tbl_1 144 rfl)), ?_⟩
  refine List.forall_mem_cons.mpr ⟨va_Nw.of rfl (hts _ (tbl_1 171 rfl)), ?_⟩
  refine List.forall_mem_cons.mpr ⟨va_Nw.of rfl (hts _ (tbl_1 173 rfl)), ?_⟩
  refine List.forall_mem_cons.mpr ⟨va_Nw.of rfl (hts _ (tbl_1 176 rfl)), ?_⟩
  refine List.forall_mem_cons.mpr ⟨va_Nw.of rfl (hts _ (tbl_1 198 rfl)), ?_⟩
  refine List.forall_mem_cons.mpr ⟨va_Nw.of rfl (hts _ (tbl_1 219 rfl)), ?_⟩
  refine List.forall_mem_cons.mpr ⟨va_Nw.of rfl (hts _ (tbl_2 45 rfl)), ?_⟩
  refine List.forall_mem_cons.mpr ⟨va_Nw.of rfl (hts _ (tbl_2 141 rfl)), ?_⟩
  refine List.forall_mem_cons.mpr ⟨va_Nw.of rfl (hts _ (tbl_3 132 rfl)), ?_⟩
  exact fun _ h => absurd h List.not_mem_nil
set_option maxRecDepth 10000 in
theorem st_ref (hts : ∀ w ∈ lw_tbl, w.before args s = true) : ∀ (i : Nat) (q : String × Nat × String), tw_strs[i]? = some q → (Cond.stringRef q.1 q.2.1 q.2.2).before args s = true := by
  intro i q h
  match i, h with
  | 0, h => cases h; exact hts _ (tbl_3 234 rfl)
  | 1, h => cases h; exact hts _ (tbl_4 47 rfl)
  | 2, h => cases h; exact hts _ (tbl_4 48 rfl)
  | 3, h => cases h; exact hts _ (tbl_4 49 rfl)
  | 4, h => cases h; exact hts _ (tbl_4 50 rfl)
  | 5, h => cases h; exact hts _ (tbl_4 51 rfl)
  | 6, h => cases h; exact hts _ (tbl_4 52 rfl)
  | 7, h => cases h; exact hts _ (tbl_4 59 rfl)
  | 8, h => cases h; exact hts _ (tbl_4 66 rfl)
  | 9, h => cases h; exact hts _ (tbl_4 67 rfl)
  | 10, h => cases h; exact hts _ (tbl_4 68 rfl)
  | 11, h => cases h; exact hts _ (tbl_4 69 rfl)
  | 12, h => cases h; exact hts _ (tbl_4 76 rfl)
  | 13, h => cases h; exact hts _ (tbl_4 77 rfl)
  | 14, h => cases h; exact hts _ (tbl_4 163 rfl)
  | 15, h => cases h; exact hts _ (tbl_4 164 rfl)
  | 16, h => cases h; exact hts _ (tbl_4 165 rfl)
  | 17, h => cases h; exact hts _ (tbl_4 166 rfl)
  | 18, h => cases h; exact hts _ (tbl_4 167 rfl)
  | 19, h => cases h; exact hts _ (tbl_4 168 rfl)
  | 20, h => cases h; exact hts _ (tbl_4 169 rfl)
  | 21, h => cases h; exact hts _ (tbl_6 61 rfl)
  | 22, h => cases h; exact hts _ (tbl_6 70 rfl)
  | 23, h => cases h; exact hts _ (tbl_6 71 rfl)
  | 24, h => cases h; exact hts _ (tbl_6 72 rfl)
  | 25, h => cases h; exact hts _ (tbl_6 77 rfl)
  | 26, h => cases h; exact hts _ (tbl_6 78 rfl)
  | 27, h => cases h; exact hts _ (tbl_6 79 rfl)
  | k + 28, h => simp [tw_strs] at h
theorem st_str (hgv : (Cond.and given_1 narrow_1).before args s = true) {A : Nat → Prop} (hA : ∀ a : Nat, a < s.heap.size → ¬ A a) : ∀ i : Nat, ∃ q : Nat × Nat, i < 28 → (sT i).eval args s none [] s = some (.ref q.1) ∧ va_O "java/lang/String" q.1 A s s.heap ∧ va_OF "java/lang/String" "coder" "B" (.int 0) q.1 A s s.heap ∧ va_OF "java/lang/String" "value" "[B" (.ref q.2) q.1 A s s.heap ∧ va_T .byte q.2 (tw_byt.getD i []).length (fun j => .int ((tw_byt.getD i []).getD j 0)) A s s.heap := by
  intro i
  by_cases hi : i < 28
  · have hex := st_at hgv (nar_ex i hi)
    obtain ⟨a, c, cA, kA, q1, -⟩ := Cond.exactly_spec (args := args) (first := s) (o := none) (s := s) (idx := []) (t := sT i) (cls := "java/lang/String") hex
    obtain ⟨t, ht, hT⟩ := va_Tof (tm := sV i) (f := fun j => .int ((tw_byt.getD i []).getD j 0)) (A := A) (nar_len i hi) (st_at hgv (nar_ar i hi)) (va_eqt (st_at hgv (nar_le i hi))) (fun j hj => va_eqt (st_at hgv (nar_el i hi j hj))) hA
    exact ⟨(a, t), fun _ => ⟨q1, va_Oof hex q1 hA, vk_OFof q1 (va_eqt (st_at hgv (nar_co i hi))) hA, vk_OFof q1 ht hA, hT⟩⟩
  · exact ⟨(0, 0), fun h => absurd h hi⟩
/-- the addresses: the world behind the heap, then strings, their bytes, UPPER_KIND, the formatter, the script -/
def rhoOf (h0 : Nat) (ad : Nat → Nat × Nat) (up fo b : Nat) (k : Nat) : Nat := if k < 202 then h0 + k else if k < 230 then (ad (k - 202)).1 else if k < 258 then (ad (k - 230)).2 else if k = 258 then up else if k = 259 then fo else b
theorem rho_w {h0 up fo b k : Nat} {ad : Nat → Nat × Nat} (h : k < 202) : rhoOf h0 ad up fo b k = h0 + k := if_pos h
theorem rho_s {h0 up fo b i : Nat} {ad : Nat → Nat × Nat} (h : i < 28) : rhoOf h0 ad up fo b (202 + i) = (ad i).1 := by
  unfold rhoOf
  rw [if_neg (by omega), if_pos (by omega), show 202 + i - 202 = i by omega]
theorem rho_v {h0 up fo b i : Nat} {ad : Nat → Nat × Nat} (h : i < 28) : rhoOf h0 ad up fo b (230 + i) = (ad i).2 := by
  unfold rhoOf
  rw [if_neg (by omega), if_neg (by omega), if_pos (by omega), show 230 + i - 230 = i by omega]
theorem rho_A {h0 up fo b a : Nat} {ad : Nat → Nat × Nat} (h : a < h0) : ¬ tw_A (rhoOf h0 ad up fo b) h0 a := by
  rintro (⟨k, hk, e⟩ | h1)
  · rw [rho_w hk] at e
    omega
  · omega
/-- all that the walk asks of the start -/
theorem st_G (l : Launch) (b : Nat) (hts : ∀ w ∈ lw_tbl, w.before args s = true) (hgv : (Cond.and given_1 narrow_1).before args s = true) : ∃ (D : va_G) (cy : Nat → ClassId) (ρ : Nat → Nat), tw_G (l, D, cy, ρ) s ∧ (∀ k, k < 202 → ρ k = s.heap.size + k) ∧ ρ 260 = b ∧ ∀ a : Nat, a < s.heap.size → ¬ tw_A ρ s.heap.size a := by
  obtain ⟨D, cy, hK⟩ := st_K hts
  have hA0 : ∀ a : Nat, a < s.heap.size → ¬ (fun q : Nat => s.heap.size ≤ q) a := fun a h => Nat.not_le.mpr h
  obtain ⟨ad, had⟩ := Classical.axiomOfChoice (st_str hgv hA0)
  obtain ⟨up, hup, hT⟩ := va_Tof (tm := (.static "TwinLights" "UPPER_KIND" "[I")) (ty := .int) (N := 7) (f := fun j => .int (tw_up.getD j 0)) (by decide) (st_at hgv nar_ua) (va_eqt (st_at hgv nar_ul)) (fun j hj => va_eqt (st_at hgv (nar_ue j hj))) hA0
  have hU := va_Zof (A := fun q : Nat => s.heap.size ≤ q) (hts _ (tbl_4 91 rfl)) (hts _ (tbl_1 1 rfl)) hup hA0
  have hC := va_Zof (A := fun q : Nat => s.heap.size ≤ q) (hts _ (tbl_4 8 rfl)) (hts _ (tbl_1 14 rfl)) (va_eqt (st_at hgv nar_cs)) hA0
  have hS := va_Zqof (A := fun q : Nat => s.heap.size ≤ q) (hts _ (tbl_4 24 rfl)) (hts _ (tbl_1 16 rfl)) (st_at hgv nar_si) hA0
  obtain ⟨fo, hS⟩ : ∃ fo : Nat, va_Z "jdk/internal/util/Preconditions" "SIOOBE_FORMATTER" "Ljava/util/function/BiFunction;" .null (fun q : Nat => s.heap.size ≤ q) s s.heap ∨ va_Z "jdk/internal/util/Preconditions" "SIOOBE_FORMATTER" "Ljava/util/function/BiFunction;" (.ref fo) (fun q : Nat => s.heap.size ≤ q) s s.heap := by
    rcases hS with h | ⟨t, h⟩
    · exact ⟨0, Or.inl h⟩
    · exact ⟨t, Or.inr h⟩
  have hO : tw_O (rhoOf s.heap.size ad up fo b) (fun q : Nat => s.heap.size ≤ q) s s.heap := by
    refine ⟨fun i hi => ?_, hC, hS, hU, hT⟩
    rw [rho_s hi, rho_v hi]
    exact (had i hi).2
  refine ⟨D, cy, rhoOf s.heap.size ad up fo b, ⟨fun i j hi hj e => ?_, hK, st_N hts, fun i q hq => ?_, hO.narrow (fun q hq => ?_)⟩, fun k hk => rho_w hk, rfl, fun a ha => rho_A ha⟩
  · rw [rho_w hi, rho_w hj] at e
    omega
  · have hi : i < 28 := (List.getElem?_eq_some_iff.mp hq).1
    rw [rho_s hi]
    have e : sT i = .string q.1 q.2.1 := by
      unfold sT
      rw [show tw_strs.getD i ("", 0, "") = q by rw [List.getD_eq_getElem?_getD, hq]; rfl]
    exact vk_R.of (st_ref hts i q hq) (by rw [← e]; exact (had i hi).1)
  · rcases hq with ⟨k, hk, e⟩ | h
    · rw [e, rho_w hk]
      exact Nat.le_add_right _ _
    · exact h
end START
