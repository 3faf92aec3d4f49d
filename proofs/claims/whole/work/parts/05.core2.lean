/-! ===== contexts, contracts, rows ===== -/
def tw_lift (τ : tw_T) (k j : Nat) : Value := if tw_lk k j = 0 then .int (τ k j) else .ref (tw_lk k j - 1)
def tw_wS (cy : Nat → ClassId) (ρ : Nat → Nat) (τ : tw_T) : va_W := tw_wD cy ρ 202 tw_sh (tw_lift τ)
theorem lift_put {τ : tw_T} {k j : Nat} {v : Int32} (h : tw_lk k j = 0) : (fun q => if q = k then (fun i => if i = j then Value.int v else tw_lift τ k i) else tw_lift τ q) = tw_lift (tw_sr τ k (upd (τ k) j v)) := by
  funext q i
  by_cases hq : q = k
  · subst hq
    by_cases hi : i = j
    · subst hi
      simp [tw_lift, h, tw_sr, upd]
    · simp [tw_lift, tw_sr, upd, hi]
  · simp [tw_lift, tw_sr, hq]
theorem lift_row {τ : tw_T} {k : Nat} {f : Nat → Int32} (h : ∀ j, tw_lk k j = 0) : (fun q => if q = k then (fun i => Value.int (f i)) else tw_lift τ q) = tw_lift (tw_sr τ k f) := by
  funext q i
  by_cases hq : q = k
  · subst hq
    simp [tw_lift, h, tw_sr]
  · simp [tw_lift, tw_sr, hq]
theorem lk_int0 {k : Nat} (hk : k < 202) (h : (tw_sh k).1 = 10) (j : Nat) : tw_lk k j = 0 := by
  unfold tw_lk
  rw [lk_int k hk h]
  rfl
theorem isK_of {k ci : Nat} (h : tw_isK k ci = true) : k < 202 ∧ (tw_sh k).1 = ci := by
  simpa [tw_isK] using h
/-- which old cells may change: the world's, and new ones -/
def tw_A (ρ : Nat → Nat) (sz : Nat) : Nat → Prop := fun q => (∃ k : Nat, k < 202 ∧ q = ρ k) ∨ sz ≤ q
abbrev tw_E : Type := Launch × va_G × (Nat → ClassId) × (Nat → Nat)
def tw_tys (cy : Nat → ClassId) : List (ClassId × FieldType) := [(cy 0, .int), (cy 1, .object "TwinLights$Ship"), (cy 2, .object "TwinLights$Fleet"), (cy 3, .object "TwinLights$Sheet"), (cy 4, .object "java/lang/String")]
def tw_O (ρ : Nat → Nat) (A : Nat → Prop) (U : State) (H : Heap) : Prop :=
  (∀ i : Nat, i < 28 → va_O "java/lang/String" (ρ (202 + i)) A U H ∧ va_OF "java/lang/String" "coder" "B" (.int 0) (ρ (202 + i)) A U H ∧ va_OF "java/lang/String" "value" "[B" (.ref (ρ (230 + i))) (ρ (202 + i)) A U H ∧ va_T .byte (ρ (230 + i)) (tw_byt.getD i []).length (fun j => .int ((tw_byt.getD i []).getD j 0)) A U H) ∧
  va_Z "java/lang/String" "COMPACT_STRINGS" "Z" (.int 1) A U H ∧ (va_Z "jdk/internal/util/Preconditions" "SIOOBE_FORMATTER" "Ljava/util/function/BiFunction;" .null A U H ∨ va_Z "jdk/internal/util/Preconditions" "SIOOBE_FORMATTER" "Ljava/util/function/BiFunction;" (.ref (ρ 259)) A U H) ∧
  va_Z "TwinLights" "UPPER_KIND" "[I" (.ref (ρ 258)) A U H ∧ va_T .int (ρ 258) 7 (fun j => .int (tw_up.getD j 0)) A U H
theorem tw_O.moved {ρ : Nat → Nat} {A : Nat → Prop} {u U : State} {H : Heap} (hvm : u.vm.Alike U.vm) (h : tw_O ρ A u H) : tw_O ρ A U H :=
  ⟨fun i hi => ⟨(h.1 i hi).1.moved hvm, (h.1 i hi).2.1.moved hvm, (h.1 i hi).2.2.1.moved hvm, (h.1 i hi).2.2.2.moved hvm⟩, h.2.1.moved hvm, h.2.2.1.imp (fun q => q.moved hvm) (fun q => q.moved hvm), h.2.2.2.1.moved hvm, h.2.2.2.2.moved hvm⟩
theorem tw_O.kept {ρ : Nat → Nat} {A : Nat → Prop} {U : State} {H H1 : Heap} (h : tw_O ρ A U H) (hq : ∀ a : Nat, a < H.size → ¬ A a → H1[a]? = H[a]?) : tw_O ρ A U H1 :=
  ⟨fun i hi => ⟨(h.1 i hi).1.kept hq, (h.1 i hi).2.1.kept hq, (h.1 i hi).2.2.1.kept hq, (h.1 i hi).2.2.2.kept hq⟩, h.2.1.kept hq, h.2.2.1.imp (fun q => q.kept hq) (fun q => q.kept hq), h.2.2.2.1.kept hq, h.2.2.2.2.kept hq⟩
theorem tw_O.narrow {ρ : Nat → Nat} {A B : Nat → Prop} {U : State} {H : Heap} (h : tw_O ρ A U H) (hAB : ∀ q, B q → A q) : tw_O ρ B U H :=
  ⟨fun i hi => ⟨(h.1 i hi).1.narrow hAB, (h.1 i hi).2.1.narrow hAB, (h.1 i hi).2.2.1.narrow hAB, (h.1 i hi).2.2.2.narrow hAB⟩, h.2.1.narrow hAB, h.2.2.1.imp (fun q => q.narrow hAB) (fun q => q.narrow hAB), h.2.2.2.1.narrow hAB, h.2.2.2.2.narrow hAB⟩
/-- what holds of every state: the tables, the nest words, the strings and statics -/
def tw_G (E : tw_E) (U : State) : Prop := match E with
  | (_, D, cy, ρ) => (∀ i j : Nat, i < 202 → j < 202 → ρ i = ρ j → i = j) ∧ va_K D vwCl (tw_tys cy) U ∧ (∀ w ∈ tw_nest, va_Nw (.methodLinkNest w.1 w.2.1 w.2.2 "TwinLights") U) ∧ (∀ (i : Nat) (q : String × Nat × String), tw_strs[i]? = some q → vk_R q.1 q.2.1 q.2.2 (ρ (202 + i)) U) ∧ tw_O ρ (tw_A ρ U.heap.size) U U.heap
theorem G_step {E : tw_E} {s U : State} {H : Heap} {locs : List Loc} (h : tw_G E s) (hS : va_S (tw_A E.2.2.2 s.heap.size) s.heap H locs) (hU : U.heap = H) (hW : s.WarmedH U.vm) : tw_G E U := by
  obtain ⟨l, D, cy, ρ⟩ := E
  obtain ⟨h1, h2, h3, h4, h5⟩ := h
  refine ⟨h1, va_K.moved hW.alike h2, fun w hw => va_Nw.warmM hW (h3 w hw), fun i q hq => vk_R.warm hW (h4 i q hq), ?_⟩
  rw [hU]
  refine ((h5.moved hW.alike).kept hS.2.1).narrow (fun q hq => ?_)
  rcases hq with hq | hq
  · exact Or.inl hq
  · exact Or.inr (Nat.le_trans hS.1 hq)
theorem G_blind {E : tw_E} {U : State} {g : JFrame} {mk : MethodId} {a : Array Value} (h : tw_G E U) : tw_G E (U.calling g mk a) := by
  obtain ⟨l, D, cy, ρ⟩ := E
  obtain ⟨h1, h2, h3, h4, h5⟩ := h
  have hv : U.vm.Alike (U.calling g mk a).vm := Vm.Alike.refl U.vm
  exact ⟨h1, va_K.moved hv h2, fun w hw => va_Nw.same rfl rfl (h3 w hw), fun i q hq => vk_R.same rfl (h4 i q hq), h5.moved hv⟩
abbrev tw_K : Type := (Program × Env × Room × State × MethodId × Array Value) × (List Frame × Method × Code) × (Nat × Nat × (State → Prop)) × tw_E
/-- from this point of this frame, with this store, the machine comes to its end -/
def tw_R (K : tw_K) (pc : Nat) (ls st : List Value) (τ : tw_T) : Prop := match K with
  | ((p, e, R, s, m, args), (below, meth, c), (cells, slots, Z), (l, D, cy, ρ)) => ∀ (H : Heap) (locs : List Loc) (la : Array Slot), va_P D vwCl (tw_wS cy ρ τ) H → va_S (tw_A ρ s.heap.size) s.heap H locs → tw_Lv la c.maxLocals (ls.map (tw_tr ρ)) → W p l e R s m args below meth c H locs cells slots Z (F0 m pc la (st.map (tw_tr ρ)))
def tw_C (K : tw_K) (own : String) (cc : ByteArray) (nL d : Nat) : Prop := match K with
  | ((p, _, R, s, m, args), (_, _, c), (cells, slots, _), E) => p.tables.exec = Jvm.exec ∧ c.code = cc ∧ c.maxLocals = nL ∧ s.vm.findClass own = some m.cls ∧ (∀ w ∈ tw_gT, w.before args s = true) ∧ tw_G E s ∧ d ≤ R.frames ∧ 64 * d ≤ R.locals ∧ cells ≤ R.cells ∧ slots ≤ R.slots
def tw_Rt (K : tw_K) (cc : ByteArray) (ret : Option FieldType) (Q : Option Value → tw_T → Prop) : Prop :=
  (∀ (pc : Nat) (ls : List Value) (τ : tw_T) (v : Int32) (ty : FieldType), ret = some ty → decode cc pc = .ok (.ireturn, 1) → narrow ty (.int v) = .int v → Q (some (.int v)) τ → tw_R K pc ls [.int v] τ) ∧
  (∀ (pc : Nat) (ls : List Value) (τ : tw_T) (v : Int64), ret = some .long → decode cc pc = .ok (.lreturn, 1) → Q (some (.long v)) τ → tw_R K pc ls [.long v] τ) ∧
  (∀ (pc : Nat) (ls : List Value) (τ : tw_T), ret = none → decode cc pc = .ok (.return_, 1) → Q none τ → tw_R K pc ls [] τ)
def tw_F (K : tw_K) (M : Mt) (d : Nat) (Q : Option Value → tw_T → Prop) : Prop := tw_C K M.1.cls M.2.1 M.2.2.1 d ∧ tw_Rt K M.2.1 M.2.2.2 Q
def tw_rm (d : Nat) : Room := { frames := d, cells := 0, slots := 0, locals := 64 * d }
def tw_Qc (E : tw_E) (sz : Nat) (Q : Option Value → tw_T → Prop) : Array Value → State → Outcome → State → Prop := fun _ st oc t =>
  (∃ (v : Option Value) (τ' : tw_T), oc = .returned (v.map (tw_tr E.2.2.2)) ∧ Q v τ' ∧ va_P E.2.1 vwCl (tw_wS E.2.2.1 E.2.2.2 τ') t.heap) ∧ va_F (tw_A E.2.2.2 sz) st t
/-- a method's contract: with these arguments and this store it returns, with Q of its answer and the store then -/
def tw_Ct (E : tw_E) (d : Nat) (M : Mt) (av : List Value) (τ : tw_T) (Q : Option Value → tw_T → Prop) : Prop :=
  ∀ sz : Nat, Met E.1 M.1 (Cond.code M.1 M.2.1 M.2.2.1 M.2.2.2 :: tw_gT) (tw_rm d) (va_Pc (av.map (tw_tr E.2.2.2)) (fun U => U.heap.size = sz ∧ va_P E.2.1 vwCl (tw_wS E.2.2.1 E.2.2.2 τ) U.heap ∧ tw_G E U)) (tw_Qc E sz Q) 0 0 (tw_A E.2.2.2 sz)
theorem ct_of {E : tw_E} {d : Nat} {M : Mt} {av : List Value} {τ : tw_T} {Q : Option Value → tw_T → Prop} (hpl : plainName M.1.cls = true) (h1 : ∀ v ∈ av, v.category = 1) (hn : av.length ≤ M.2.2.1)
    (body : ∀ K : tw_K, K.2.2.2 = E → tw_F K M d Q → tw_R K 0 (av ++ List.replicate (M.2.2.1 - av.length) .null) [] τ) : tw_Ct E d M av τ Q := by
  obtain ⟨l, D, cy, ρ⟩ := E
  intro sz
  refine Met.ofW (cc := M.2.1) (maxL := M.2.2.1) (ret := M.2.2.2) hpl rfl ?_
  intro p e s m args below meth c s₁ B hml hv
  obtain ⟨hargs, hsz, hP, hG⟩ := hv
  have hx := B.exec
  have hb := B.bytes
  have hr := B.returns
  have hts := atoms_spec (ws := Cond.code M.1 M.2.1 M.2.2.1 M.2.2.2 :: tw_gT) B.pre
  have hown : s.vm.findClass M.1.cls = some m.cls := findClass_of_methodNamed B.named
  have hlocks := B.notSynchronized
  have h1' : ∀ v ∈ av.map (tw_tr ρ), v.category = 1 := by
    intro v hv
    obtain ⟨w, hw, rfl⟩ := List.mem_map.mp hv
    rw [tr_cat]
    exact h1 w hw
  have hL := Lv_entry (vs := av.map (tw_tr ρ)) (n := M.2.2.1) h1' (by simpa using hn)
  subst hsz
  have hK := body ((p, e, tw_rm d, s, m, args), (below, meth, c), (0, 0, MQ below (tw_Qc (l, D, cy, ρ) s.heap.size Q) args s 0 0 (tw_A ρ s.heap.size)), (l, D, cy, ρ)) rfl
    ⟨⟨hx, hb, hml, hown, fun w hw => hts w (List.mem_cons_of_mem _ hw), hG, Nat.le_refl _, Nat.le_refl _, Nat.le_refl _, Nat.le_refl _⟩, ?_, ?_, ?_⟩ s.heap [] _ hP va_S.rf (by rw [hml]; simpa [List.map_append, List.map_replicate, tw_tr] using hL)
  · rw [hargs]
    dsimp only
    rw [lg_entry_eq]
    rw [← hargs]
    exact hK
  · intro pc ls τ v ty hty hd hn hq H locs la hP hS _
    exact W.zret hx hb (hr.trans hty) hn (fun t ht hW => ⟨⟨some (.int v), τ, rfl, hq, by rw [ht]; exact hP⟩, hS.F ht⟩) hS.2.2 hd hlocks
  · intro pc ls τ v hty hd hq H locs la hP hS _
    exact W.lret hx hb (hr.trans hty) (fun t ht hW => ⟨⟨some (.long v), τ, rfl, hq, by rw [ht]; exact hP⟩, hS.F ht⟩) hS.2.2 hd hlocks
  · intro pc ls τ hty hd hq H locs la hP hS _
    exact W.vret hx hb (hr.trans hty) (fun t ht hW => ⟨⟨none, τ, rfl, hq, by rw [ht]; exact hP⟩, hS.F ht⟩) hS.2.2 hd hlocks
theorem Lv_at {la : Array Slot} {nL : Nat} {ρ : Nat → Nat} {ls : List Value} {i : Nat} {v : Value} (h : tw_Lv la nL (ls.map (tw_tr ρ))) (hi : ls[i]? = some v) (hv : v ≠ .null) : la[i]? = some (.val (tw_tr ρ v)) :=
  h.2.2 i _ (by rw [List.getElem?_map, hi]; rfl) (tr_nn hv)
section ROWS
variable {K : tw_K} {M : Mt} {d : Nat} {Q : Option Value → tw_T → Prop} {pc : Nat} {ls st : List Value} {τ : tw_T}

theorem rw_iconst (F : tw_F K M d Q) {n : Int} {v : Int32} (hd : decode M.2.1 pc = .ok (.iconst n, 1)) (hv : Int32.ofInt n = v) (k : tw_R K (pc + 1) ls (.int v :: st) τ) : tw_R K pc ls (st) τ := by
  obtain ⟨⟨p, e, R, s, m, args⟩, ⟨below, meth, c⟩, ⟨cells, slots, Z⟩, ⟨l, D, cy, ρ⟩⟩ := K
  obtain ⟨⟨hx, hb, hml, hown, hts, hG, hR1, hR2, hR3, hR4⟩, hRt⟩ := F
  intro H locs la hP hS hL
  exact lv_iconst hx hb hd hv (k H locs la hP hS hL)
theorem rw_bipush (F : tw_F K M d Q) {n : Int} {v : Int32} (hd : decode M.2.1 pc = .ok (.bipush n, 2)) (hv : (Int8.ofInt n).toInt32 = v) (k : tw_R K (pc + 2) ls (.int v :: st) τ) : tw_R K pc ls (st) τ := by
  obtain ⟨⟨p, e, R, s, m, args⟩, ⟨below, meth, c⟩, ⟨cells, slots, Z⟩, ⟨l, D, cy, ρ⟩⟩ := K
  obtain ⟨⟨hx, hb, hml, hown, hts, hG, hR1, hR2, hR3, hR4⟩, hRt⟩ := F
  intro H locs la hP hS hL
  exact lv_bipush hx hb hd hv (k H locs la hP hS hL)
theorem rw_sipush (F : tw_F K M d Q) {n : Int} {v : Int32} (hd : decode M.2.1 pc = .ok (.sipush n, 3)) (hv : (Int16.ofInt n).toInt32 = v) (k : tw_R K (pc + 3) ls (.int v :: st) τ) : tw_R K pc ls (st) τ := by
  obtain ⟨⟨p, e, R, s, m, args⟩, ⟨below, meth, c⟩, ⟨cells, slots, Z⟩, ⟨l, D, cy, ρ⟩⟩ := K
  obtain ⟨⟨hx, hb, hml, hown, hts, hG, hR1, hR2, hR3, hR4⟩, hRt⟩ := F
  intro H locs la hP hS hL
  exact lv_sipush hx hb hd hv (k H locs la hP hS hL)
theorem rw_lconst (F : tw_F K M d Q) {n : Fin 2} {v : Int64} (hd : decode M.2.1 pc = .ok (.lconst n, 1)) (hv : Int64.ofNat (n : Nat) = v) (k : tw_R K (pc + 1) ls (.long v :: st) τ) : tw_R K pc ls (st) τ := by
  obtain ⟨⟨p, e, R, s, m, args⟩, ⟨below, meth, c⟩, ⟨cells, slots, Z⟩, ⟨l, D, cy, ρ⟩⟩ := K
  obtain ⟨⟨hx, hb, hml, hown, hts, hG, hR1, hR2, hR3, hR4⟩, hRt⟩ := F
  intro H locs la hP hS hL
  exact lv_lconst hx hb hd hv (k H locs la hP hS hL)
theorem rw_iload_n (F : tw_F K M d Q) {k0 : Fin 4} {x : Int32} (hd : decode M.2.1 pc = .ok (.iload_n k0, 1)) (hl : ls[(k0 : Nat)]? = some (.int x)) (k : tw_R K (pc + 1) ls (.int x :: st) τ) : tw_R K pc ls (st) τ := by
  obtain ⟨⟨p, e, R, s, m, args⟩, ⟨below, meth, c⟩, ⟨cells, slots, Z⟩, ⟨l, D, cy, ρ⟩⟩ := K
  obtain ⟨⟨hx, hb, hml, hown, hts, hG, hR1, hR2, hR3, hR4⟩, hRt⟩ := F
  intro H locs la hP hS hL
  exact lv_iload_n hx hb hd rfl (Lv_at hL hl (by simp)) (k H locs la hP hS hL)
theorem rw_iload (F : tw_F K M d Q) {i0 : Nat} {x : Int32} (hd : decode M.2.1 pc = .ok (.iload i0, 2)) (hl : ls[i0]? = some (.int x)) (k : tw_R K (pc + 2) ls (.int x :: st) τ) : tw_R K pc ls (st) τ := by
  obtain ⟨⟨p, e, R, s, m, args⟩, ⟨below, meth, c⟩, ⟨cells, slots, Z⟩, ⟨l, D, cy, ρ⟩⟩ := K
  obtain ⟨⟨hx, hb, hml, hown, hts, hG, hR1, hR2, hR3, hR4⟩, hRt⟩ := F
  intro H locs la hP hS hL
  exact lv_iload hx hb hd (Lv_at hL hl (by simp)) (k H locs la hP hS hL)
theorem rw_istore_n (F : tw_F K M d Q) {k0 : Fin 4} {x : Int32} (hd : decode M.2.1 pc = .ok (.istore_n k0, 1)) (hi : (k0 : Nat) < M.2.2.1) (h2 : tw_n2 ls (k0 : Nat) = true) (k : tw_R K (pc + 1) (ls.set (k0 : Nat) (.int x)) st τ) : tw_R K pc ls (.int x :: st) τ := by
  obtain ⟨⟨p, e, R, s, m, args⟩, ⟨below, meth, c⟩, ⟨cells, slots, Z⟩, ⟨l, D, cy, ρ⟩⟩ := K
  obtain ⟨⟨hx, hb, hml, hown, hts, hG, hR1, hR2, hR3, hR4⟩, hRt⟩ := F
  intro H locs la hP hS hL
  refine lv_istore_n hx hb hd rfl (Lv_has hL) (by rw [hml]; exact hi) rfl (fun la' h' => ?_)
  exact k H locs la' hP hS (by rw [List.map_set]; exact Lv_of_store (la := la) (n2_tr h2) h')
theorem rw_istore (F : tw_F K M d Q) {i0 : Nat} {x : Int32} (hd : decode M.2.1 pc = .ok (.istore i0, 2)) (hi : i0 < M.2.2.1) (h2 : tw_n2 ls i0 = true) (k : tw_R K (pc + 2) (ls.set i0 (.int x)) st τ) : tw_R K pc ls (.int x :: st) τ := by
  obtain ⟨⟨p, e, R, s, m, args⟩, ⟨below, meth, c⟩, ⟨cells, slots, Z⟩, ⟨l, D, cy, ρ⟩⟩ := K
  obtain ⟨⟨hx, hb, hml, hown, hts, hG, hR1, hR2, hR3, hR4⟩, hRt⟩ := F
  intro H locs la hP hS hL
  refine lv_istore hx hb hd  (Lv_has hL) (by rw [hml]; exact hi) rfl (fun la' h' => ?_)
  exact k H locs la' hP hS (by rw [List.map_set]; exact Lv_of_store (la := la) (n2_tr h2) h')
theorem rw_aload_n (F : tw_F K M d Q) {k0 : Fin 4} {x : Nat} (hd : decode M.2.1 pc = .ok (.aload_n k0, 1)) (hl : ls[(k0 : Nat)]? = some (.ref x)) (k : tw_R K (pc + 1) ls (.ref x :: st) τ) : tw_R K pc ls (st) τ := by
  obtain ⟨⟨p, e, R, s, m, args⟩, ⟨below, meth, c⟩, ⟨cells, slots, Z⟩, ⟨l, D, cy, ρ⟩⟩ := K
  obtain ⟨⟨hx, hb, hml, hown, hts, hG, hR1, hR2, hR3, hR4⟩, hRt⟩ := F
  intro H locs la hP hS hL
  exact lv_aload_n hx hb hd rfl (Lv_at hL hl (by simp)) (k H locs la hP hS hL)
theorem rw_aload (F : tw_F K M d Q) {i0 : Nat} {x : Nat} (hd : decode M.2.1 pc = .ok (.aload i0, 2)) (hl : ls[i0]? = some (.ref x)) (k : tw_R K (pc + 2) ls (.ref x :: st) τ) : tw_R K pc ls (st) τ := by
  obtain ⟨⟨p, e, R, s, m, args⟩, ⟨below, meth, c⟩, ⟨cells, slots, Z⟩, ⟨l, D, cy, ρ⟩⟩ := K
  obtain ⟨⟨hx, hb, hml, hown, hts, hG, hR1, hR2, hR3, hR4⟩, hRt⟩ := F
  intro H locs la hP hS hL
  exact lv_aload hx hb hd (Lv_at hL hl (by simp)) (k H locs la hP hS hL)
theorem rw_astore_n (F : tw_F K M d Q) {k0 : Fin 4} {x : Nat} (hd : decode M.2.1 pc = .ok (.astore_n k0, 1)) (hi : (k0 : Nat) < M.2.2.1) (h2 : tw_n2 ls (k0 : Nat) = true) (k : tw_R K (pc + 1) (ls.set (k0 : Nat) (.ref x)) st τ) : tw_R K pc ls (.ref x :: st) τ := by
  obtain ⟨⟨p, e, R, s, m, args⟩, ⟨below, meth, c⟩, ⟨cells, slots, Z⟩, ⟨l, D, cy, ρ⟩⟩ := K
  obtain ⟨⟨hx, hb, hml, hown, hts, hG, hR1, hR2, hR3, hR4⟩, hRt⟩ := F
  intro H locs la hP hS hL
  refine lv_astore_n hx hb hd rfl (Lv_has hL) (by rw [hml]; exact hi) rfl (fun la' h' => ?_)
  exact k H locs la' hP hS (by rw [List.map_set]; exact Lv_of_store (la := la) (n2_tr h2) h')
theorem rw_astore (F : tw_F K M d Q) {i0 : Nat} {x : Nat} (hd : decode M.2.1 pc = .ok (.astore i0, 2)) (hi : i0 < M.2.2.1) (h2 : tw_n2 ls i0 = true) (k : tw_R K (pc + 2) (ls.set i0 (.ref x)) st τ) : tw_R K pc ls (.ref x :: st) τ := by
  obtain ⟨⟨p, e, R, s, m, args⟩, ⟨below, meth, c⟩, ⟨cells, slots, Z⟩, ⟨l, D, cy, ρ⟩⟩ := K
  obtain ⟨⟨hx, hb, hml, hown, hts, hG, hR1, hR2, hR3, hR4⟩, hRt⟩ := F
  intro H locs la hP hS hL
  refine lv_astore hx hb hd  (Lv_has hL) (by rw [hml]; exact hi) rfl (fun la' h' => ?_)
  exact k H locs la' hP hS (by rw [List.map_set]; exact Lv_of_store (la := la) (n2_tr h2) h')
theorem rw_lload_n (F : tw_F K M d Q) {k0 : Fin 4} {x : Int64} (hd : decode M.2.1 pc = .ok (.lload_n k0, 1)) (hl : ls[(k0 : Nat)]? = some (.long x)) (k : tw_R K (pc + 1) ls (.long x :: st) τ) : tw_R K pc ls (st) τ := by
  obtain ⟨⟨p, e, R, s, m, args⟩, ⟨below, meth, c⟩, ⟨cells, slots, Z⟩, ⟨l, D, cy, ρ⟩⟩ := K
  obtain ⟨⟨hx, hb, hml, hown, hts, hG, hR1, hR2, hR3, hR4⟩, hRt⟩ := F
  intro H locs la hP hS hL
  exact lv_lload_n hx hb hd rfl (Lv_at hL hl (by simp)) (k H locs la hP hS hL)
theorem rw_lload (F : tw_F K M d Q) {i0 : Nat} {x : Int64} (hd : decode M.2.1 pc = .ok (.lload i0, 2)) (hl : ls[i0]? = some (.long x)) (k : tw_R K (pc + 2) ls (.long x :: st) τ) : tw_R K pc ls (st) τ := by
  obtain ⟨⟨p, e, R, s, m, args⟩, ⟨below, meth, c⟩, ⟨cells, slots, Z⟩, ⟨l, D, cy, ρ⟩⟩ := K
  obtain ⟨⟨hx, hb, hml, hown, hts, hG, hR1, hR2, hR3, hR4⟩, hRt⟩ := F
  intro H locs la hP hS hL
  exact lv_lload hx hb hd (Lv_at hL hl (by simp)) (k H locs la hP hS hL)
theorem rw_lstore_n (F : tw_F K M d Q) {k0 : Fin 4} {x : Int64} (hd : decode M.2.1 pc = .ok (.lstore_n k0, 1)) (hi : (k0 : Nat) + 1 < M.2.2.1) (h2 : tw_n2 ls (k0 : Nat) = true) (k : tw_R K (pc + 1) ((ls.set (k0 : Nat) (.long x)).set ((k0 : Nat) + 1) .null) st τ) : tw_R K pc ls (.long x :: st) τ := by
  obtain ⟨⟨p, e, R, s, m, args⟩, ⟨below, meth, c⟩, ⟨cells, slots, Z⟩, ⟨l, D, cy, ρ⟩⟩ := K
  obtain ⟨⟨hx, hb, hml, hown, hts, hG, hR1, hR2, hR3, hR4⟩, hRt⟩ := F
  intro H locs la hP hS hL
  refine lv_lstore_n hx hb hd rfl (Lv_has hL) (by rw [hml]; exact hi) rfl (fun la' h' => ?_)
  exact k H locs la' hP hS (by rw [List.map_set, List.map_set]; exact Lv_of_store2 (n2_tr h2) h')
theorem rw_lstore (F : tw_F K M d Q) {i0 : Nat} {x : Int64} (hd : decode M.2.1 pc = .ok (.lstore i0, 2)) (hi : i0 + 1 < M.2.2.1) (h2 : tw_n2 ls i0 = true) (k : tw_R K (pc + 2) ((ls.set i0 (.long x)).set (i0 + 1) .null) st τ) : tw_R K pc ls (.long x :: st) τ := by
  obtain ⟨⟨p, e, R, s, m, args⟩, ⟨below, meth, c⟩, ⟨cells, slots, Z⟩, ⟨l, D, cy, ρ⟩⟩ := K
  obtain ⟨⟨hx, hb, hml, hown, hts, hG, hR1, hR2, hR3, hR4⟩, hRt⟩ := F
  intro H locs la hP hS hL
  refine lv_lstore hx hb hd  (Lv_has hL) (by rw [hml]; exact hi) rfl (fun la' h' => ?_)
  exact k H locs la' hP hS (by rw [List.map_set, List.map_set]; exact Lv_of_store2 (n2_tr h2) h')
theorem rw_iinc (F : tw_F K M d Q) {i0 : Nat} {n : Int} {x v : Int32} (hd : decode M.2.1 pc = .ok (.iinc i0 n, 3)) (hl : ls[i0]? = some (.int x)) (hv : x + Int32.ofInt n = v) (hi : i0 < M.2.2.1) (h2 : tw_n2 ls i0 = true) (k : tw_R K (pc + 3) (ls.set i0 (.int v)) st τ) : tw_R K pc ls st τ := by
  obtain ⟨⟨p, e, R, s, m, args⟩, ⟨below, meth, c⟩, ⟨cells, slots, Z⟩, ⟨l, D, cy, ρ⟩⟩ := K
  obtain ⟨⟨hx, hb, hml, hown, hts, hG, hR1, hR2, hR3, hR4⟩, hRt⟩ := F
  intro H locs la hP hS hL
  have hm : (i0, Value.int x) ∈ tw_as (ls.map (tw_tr ρ)) := as_mem.mpr ⟨by rw [List.getElem?_map, hl]; rfl, by simp⟩
  obtain ⟨j, hj⟩ := List.getElem?_of_mem hm
  refine lv_iinc hx hb hd (Lv_has hL) hj hv (by rw [hml]; exact hi) rfl (fun la' h' => ?_)
  exact k H locs la' hP hS (by rw [List.map_set]; exact Lv_of_store (la := la) (n2_tr h2) h')
theorem rw_iadd (F : tw_F K M d Q) {x y : Int32} (hd : decode M.2.1 pc = .ok (.iadd, 1))  (k : tw_R K (pc + 1) ls (.int (x + y) :: st) τ) : tw_R K pc ls (.int y :: .int x :: st) τ := by
  obtain ⟨⟨p, e, R, s, m, args⟩, ⟨below, meth, c⟩, ⟨cells, slots, Z⟩, ⟨l, D, cy, ρ⟩⟩ := K
  obtain ⟨⟨hx, hb, hml, hown, hts, hG, hR1, hR2, hR3, hR4⟩, hRt⟩ := F
  intro H locs la hP hS hL
  exact lv_iadd hx hb hd  (k H locs la hP hS hL)
theorem rw_isub (F : tw_F K M d Q) {x y : Int32} (hd : decode M.2.1 pc = .ok (.isub, 1))  (k : tw_R K (pc + 1) ls (.int (x - y) :: st) τ) : tw_R K pc ls (.int y :: .int x :: st) τ := by
  obtain ⟨⟨p, e, R, s, m, args⟩, ⟨below, meth, c⟩, ⟨cells, slots, Z⟩, ⟨l, D, cy, ρ⟩⟩ := K
  obtain ⟨⟨hx, hb, hml, hown, hts, hG, hR1, hR2, hR3, hR4⟩, hRt⟩ := F
  intro H locs la hP hS hL
  exact lv_isub hx hb hd  (k H locs la hP hS hL)
theorem rw_imul (F : tw_F K M d Q) {x y : Int32} (hd : decode M.2.1 pc = .ok (.imul, 1))  (k : tw_R K (pc + 1) ls (.int (x * y) :: st) τ) : tw_R K pc ls (.int y :: .int x :: st) τ := by
  obtain ⟨⟨p, e, R, s, m, args⟩, ⟨below, meth, c⟩, ⟨cells, slots, Z⟩, ⟨l, D, cy, ρ⟩⟩ := K
  obtain ⟨⟨hx, hb, hml, hown, hts, hG, hR1, hR2, hR3, hR4⟩, hRt⟩ := F
  intro H locs la hP hS hL
  exact lv_imul hx hb hd  (k H locs la hP hS hL)
theorem rw_iand (F : tw_F K M d Q) {x y : Int32} (hd : decode M.2.1 pc = .ok (.iand, 1))  (k : tw_R K (pc + 1) ls (.int (x &&& y) :: st) τ) : tw_R K pc ls (.int y :: .int x :: st) τ := by
  obtain ⟨⟨p, e, R, s, m, args⟩, ⟨below, meth, c⟩, ⟨cells, slots, Z⟩, ⟨l, D, cy, ρ⟩⟩ := K
  obtain ⟨⟨hx, hb, hml, hown, hts, hG, hR1, hR2, hR3, hR4⟩, hRt⟩ := F
  intro H locs la hP hS hL
  exact lv_iand hx hb hd  (k H locs la hP hS hL)
theorem rw_ior (F : tw_F K M d Q) {x y : Int32} (hd : decode M.2.1 pc = .ok (.ior, 1))  (k : tw_R K (pc + 1) ls (.int (x ||| y) :: st) τ) : tw_R K pc ls (.int y :: .int x :: st) τ := by
  obtain ⟨⟨p, e, R, s, m, args⟩, ⟨below, meth, c⟩, ⟨cells, slots, Z⟩, ⟨l, D, cy, ρ⟩⟩ := K
  obtain ⟨⟨hx, hb, hml, hown, hts, hG, hR1, hR2, hR3, hR4⟩, hRt⟩ := F
  intro H locs la hP hS hL
  exact lv_ior hx hb hd  (k H locs la hP hS hL)
theorem rw_ixor (F : tw_F K M d Q) {x y : Int32} (hd : decode M.2.1 pc = .ok (.ixor, 1))  (k : tw_R K (pc + 1) ls (.int (x ^^^ y) :: st) τ) : tw_R K pc ls (.int y :: .int x :: st) τ := by
  obtain ⟨⟨p, e, R, s, m, args⟩, ⟨below, meth, c⟩, ⟨cells, slots, Z⟩, ⟨l, D, cy, ρ⟩⟩ := K
  obtain ⟨⟨hx, hb, hml, hown, hts, hG, hR1, hR2, hR3, hR4⟩, hRt⟩ := F
  intro H locs la hP hS hL
  exact lv_ixor hx hb hd  (k H locs la hP hS hL)
theorem rw_ishl (F : tw_F K M d Q) {x y : Int32} (hd : decode M.2.1 pc = .ok (.ishl, 1))  (k : tw_R K (pc + 1) ls (.int (x <<< (y &&& 31)) :: st) τ) : tw_R K pc ls (.int y :: .int x :: st) τ := by
  obtain ⟨⟨p, e, R, s, m, args⟩, ⟨below, meth, c⟩, ⟨cells, slots, Z⟩, ⟨l, D, cy, ρ⟩⟩ := K
  obtain ⟨⟨hx, hb, hml, hown, hts, hG, hR1, hR2, hR3, hR4⟩, hRt⟩ := F
  intro H locs la hP hS hL
  exact lv_ishl hx hb hd  (k H locs la hP hS hL)
theorem rw_ishr (F : tw_F K M d Q) {x y : Int32} (hd : decode M.2.1 pc = .ok (.ishr, 1))  (k : tw_R K (pc + 1) ls (.int (x >>> (y &&& 31)) :: st) τ) : tw_R K pc ls (.int y :: .int x :: st) τ := by
  obtain ⟨⟨p, e, R, s, m, args⟩, ⟨below, meth, c⟩, ⟨cells, slots, Z⟩, ⟨l, D, cy, ρ⟩⟩ := K
  obtain ⟨⟨hx, hb, hml, hown, hts, hG, hR1, hR2, hR3, hR4⟩, hRt⟩ := F
  intro H locs la hP hS hL
  exact lv_ishr hx hb hd  (k H locs la hP hS hL)
theorem rw_iushr (F : tw_F K M d Q) {x y : Int32} (hd : decode M.2.1 pc = .ok (.iushr, 1))  (k : tw_R K (pc + 1) ls (.int (x.toUInt32 >>> (y.toUInt32 &&& Int32.toUInt32 31)).toInt32 :: st) τ) : tw_R K pc ls (.int y :: .int x :: st) τ := by
  obtain ⟨⟨p, e, R, s, m, args⟩, ⟨below, meth, c⟩, ⟨cells, slots, Z⟩, ⟨l, D, cy, ρ⟩⟩ := K
  obtain ⟨⟨hx, hb, hml, hown, hts, hG, hR1, hR2, hR3, hR4⟩, hRt⟩ := F
  intro H locs la hP hS hL
  exact lv_iushr hx hb hd rfl (k H locs la hP hS hL)
theorem rw_idiv (F : tw_F K M d Q) {x y : Int32} (hd : decode M.2.1 pc = .ok (.idiv, 1)) (hne : ¬ y = 0) (k : tw_R K (pc + 1) ls (.int (x / y) :: st) τ) : tw_R K pc ls (.int y :: .int x :: st) τ := by
  obtain ⟨⟨p, e, R, s, m, args⟩, ⟨below, meth, c⟩, ⟨cells, slots, Z⟩, ⟨l, D, cy, ρ⟩⟩ := K
  obtain ⟨⟨hx, hb, hml, hown, hts, hG, hR1, hR2, hR3, hR4⟩, hRt⟩ := F
  intro H locs la hP hS hL
  exact lv_idiv hx hb hd hne (k H locs la hP hS hL)
theorem rw_irem (F : tw_F K M d Q) {x y : Int32} (hd : decode M.2.1 pc = .ok (.irem, 1)) (hne : ¬ y = 0) (k : tw_R K (pc + 1) ls (.int (x - x / y * y) :: st) τ) : tw_R K pc ls (.int y :: .int x :: st) τ := by
  obtain ⟨⟨p, e, R, s, m, args⟩, ⟨below, meth, c⟩, ⟨cells, slots, Z⟩, ⟨l, D, cy, ρ⟩⟩ := K
  obtain ⟨⟨hx, hb, hml, hown, hts, hG, hR1, hR2, hR3, hR4⟩, hRt⟩ := F
  intro H locs la hP hS hL
  exact lv_irem hx hb hd hne (k H locs la hP hS hL)
theorem rw_ladd (F : tw_F K M d Q) {x y : Int64} (hd : decode M.2.1 pc = .ok (.ladd, 1))  (k : tw_R K (pc + 1) ls (.long (x + y) :: st) τ) : tw_R K pc ls (.long y :: .long x :: st) τ := by
  obtain ⟨⟨p, e, R, s, m, args⟩, ⟨below, meth, c⟩, ⟨cells, slots, Z⟩, ⟨l, D, cy, ρ⟩⟩ := K
  obtain ⟨⟨hx, hb, hml, hown, hts, hG, hR1, hR2, hR3, hR4⟩, hRt⟩ := F
  intro H locs la hP hS hL
  exact lv_ladd hx hb hd  (k H locs la hP hS hL)
theorem rw_lmul (F : tw_F K M d Q) {x y : Int64} (hd : decode M.2.1 pc = .ok (.lmul, 1))  (k : tw_R K (pc + 1) ls (.long (x * y) :: st) τ) : tw_R K pc ls (.long y :: .long x :: st) τ := by
  obtain ⟨⟨p, e, R, s, m, args⟩, ⟨below, meth, c⟩, ⟨cells, slots, Z⟩, ⟨l, D, cy, ρ⟩⟩ := K
  obtain ⟨⟨hx, hb, hml, hown, hts, hG, hR1, hR2, hR3, hR4⟩, hRt⟩ := F
  intro H locs la hP hS hL
  exact lv_lmul hx hb hd  (k H locs la hP hS hL)
theorem rw_i2l (F : tw_F K M d Q) {x : Int32} (hd : decode M.2.1 pc = .ok (.i2l, 1))  (k : tw_R K (pc + 1) ls (.long x.toInt64 :: st) τ) : tw_R K pc ls (.int x :: st) τ := by
  obtain ⟨⟨p, e, R, s, m, args⟩, ⟨below, meth, c⟩, ⟨cells, slots, Z⟩, ⟨l, D, cy, ρ⟩⟩ := K
  obtain ⟨⟨hx, hb, hml, hown, hts, hG, hR1, hR2, hR3, hR4⟩, hRt⟩ := F
  intro H locs la hP hS hL
  exact lv_i2l hx hb hd rfl (k H locs la hP hS hL)
theorem rw_i2b (F : tw_F K M d Q) {x : Int32} (hd : decode M.2.1 pc = .ok (.i2b, 1))  (k : tw_R K (pc + 1) ls (.int x.toInt8.toInt32 :: st) τ) : tw_R K pc ls (.int x :: st) τ := by
  obtain ⟨⟨p, e, R, s, m, args⟩, ⟨below, meth, c⟩, ⟨cells, slots, Z⟩, ⟨l, D, cy, ρ⟩⟩ := K
  obtain ⟨⟨hx, hb, hml, hown, hts, hG, hR1, hR2, hR3, hR4⟩, hRt⟩ := F
  intro H locs la hP hS hL
  exact lv_i2b hx hb hd rfl (k H locs la hP hS hL)
theorem rw_i2s (F : tw_F K M d Q) {x : Int32} (hd : decode M.2.1 pc = .ok (.i2s, 1))  (k : tw_R K (pc + 1) ls (.int x.toInt16.toInt32 :: st) τ) : tw_R K pc ls (.int x :: st) τ := by
  obtain ⟨⟨p, e, R, s, m, args⟩, ⟨below, meth, c⟩, ⟨cells, slots, Z⟩, ⟨l, D, cy, ρ⟩⟩ := K
  obtain ⟨⟨hx, hb, hml, hown, hts, hG, hR1, hR2, hR3, hR4⟩, hRt⟩ := F
  intro H locs la hP hS hL
  exact lv_i2s hx hb hd rfl (k H locs la hP hS hL)
theorem rw_i2c (F : tw_F K M d Q) {x : Int32} (hd : decode M.2.1 pc = .ok (.i2c, 1))  (k : tw_R K (pc + 1) ls (.int (x.toUInt32 % 65536).toInt32 :: st) τ) : tw_R K pc ls (.int x :: st) τ := by
  obtain ⟨⟨p, e, R, s, m, args⟩, ⟨below, meth, c⟩, ⟨cells, slots, Z⟩, ⟨l, D, cy, ρ⟩⟩ := K
  obtain ⟨⟨hx, hb, hml, hown, hts, hG, hR1, hR2, hR3, hR4⟩, hRt⟩ := F
  intro H locs la hP hS hL
  exact lv_i2c hx hb hd rfl (k H locs la hP hS hL)
theorem rw_lcmp (F : tw_F K M d Q) {x y : Int64} (hd : decode M.2.1 pc = .ok (.lcmp, 1))  (k : tw_R K (pc + 1) ls (.int (lg_cmp x y) :: st) τ) : tw_R K pc ls (.long y :: .long x :: st) τ := by
  obtain ⟨⟨p, e, R, s, m, args⟩, ⟨below, meth, c⟩, ⟨cells, slots, Z⟩, ⟨l, D, cy, ρ⟩⟩ := K
  obtain ⟨⟨hx, hb, hml, hown, hts, hG, hR1, hR2, hR3, hR4⟩, hRt⟩ := F
  intro H locs la hP hS hL
  exact W.lcmp hx hb hd  (k H locs la hP hS hL)
theorem rw_dup (F : tw_F K M d Q) {v : Value} (hd : decode M.2.1 pc = .ok (.dup, 1)) (hv : v.category = 1) (k : tw_R K (pc + 1) ls (v :: v :: st) τ) : tw_R K pc ls (v :: st) τ := by
  obtain ⟨⟨p, e, R, s, m, args⟩, ⟨below, meth, c⟩, ⟨cells, slots, Z⟩, ⟨l, D, cy, ρ⟩⟩ := K
  obtain ⟨⟨hx, hb, hml, hown, hts, hG, hR1, hR2, hR3, hR4⟩, hRt⟩ := F
  intro H locs la hP hS hL
  exact lv_dup hx hb hd (by rw [tr_cat]; exact hv) (k H locs la hP hS hL)
theorem rw_pop (F : tw_F K M d Q) {v : Value} (hd : decode M.2.1 pc = .ok (.pop, 1)) (hv : v.category = 1) (k : tw_R K (pc + 1) ls (st) τ) : tw_R K pc ls (v :: st) τ := by
  obtain ⟨⟨p, e, R, s, m, args⟩, ⟨below, meth, c⟩, ⟨cells, slots, Z⟩, ⟨l, D, cy, ρ⟩⟩ := K
  obtain ⟨⟨hx, hb, hml, hown, hts, hG, hR1, hR2, hR3, hR4⟩, hRt⟩ := F
  intro H locs la hP hS hL
  exact lv_pop hx hb hd (by rw [tr_cat]; exact hv) (k H locs la hP hS hL)
theorem rw_dup2 (F : tw_F K M d Q) {v w : Value} (hd : decode M.2.1 pc = .ok (.dup2, 1)) (hv : v.category = 1) (hw : w.category = 1) (k : tw_R K (pc + 1) ls (v :: w :: v :: w :: st) τ) : tw_R K pc ls (v :: w :: st) τ := by
  obtain ⟨⟨p, e, R, s, m, args⟩, ⟨below, meth, c⟩, ⟨cells, slots, Z⟩, ⟨l, D, cy, ρ⟩⟩ := K
  obtain ⟨⟨hx, hb, hml, hown, hts, hG, hR1, hR2, hR3, hR4⟩, hRt⟩ := F
  intro H locs la hP hS hL
  exact lv_dup2_11 hx hb hd (by rw [tr_cat]; exact hv) (by rw [tr_cat]; exact hw) (k H locs la hP hS hL)
theorem rw_if_eq (F : tw_F K M d Q) {x : Int32} {off : Int} {tgt : Nat} (hd : decode M.2.1 pc = .ok (.ifCond .eq off, 3)) (ht : (pc : Int) + off = (tgt : Int)) (kt : x = 0 → tw_R K tgt ls st τ) (kf : ¬ x = 0 → tw_R K (pc + 3) ls st τ) : tw_R K pc ls (.int x :: st) τ := by
  obtain ⟨⟨p, e, R, s, m, args⟩, ⟨below, meth, c⟩, ⟨cells, slots, Z⟩, ⟨l, D, cy, ρ⟩⟩ := K
  obtain ⟨⟨hx, hb, hml, hown, hts, hG, hR1, hR2, hR3, hR4⟩, hRt⟩ := F
  intro H locs la hP hS hL
  exact lv_if_eq hx hb hd ht (fun h => kt h H locs la hP hS hL) (fun h => kf h H locs la hP hS hL)
theorem rw_icmp_eq (F : tw_F K M d Q) {x y : Int32} {off : Int} {tgt : Nat} (hd : decode M.2.1 pc = .ok (.if_icmp .eq off, 3)) (ht : (pc : Int) + off = (tgt : Int)) (kt : x = y → tw_R K tgt ls st τ) (kf : ¬ x = y → tw_R K (pc + 3) ls st τ) : tw_R K pc ls (.int y :: .int x :: st) τ := by
  obtain ⟨⟨p, e, R, s, m, args⟩, ⟨below, meth, c⟩, ⟨cells, slots, Z⟩, ⟨l, D, cy, ρ⟩⟩ := K
  obtain ⟨⟨hx, hb, hml, hown, hts, hG, hR1, hR2, hR3, hR4⟩, hRt⟩ := F
  intro H locs la hP hS hL
  exact lv_icmp_eq hx hb hd ht (fun h => kt h H locs la hP hS hL) (fun h => kf h H locs la hP hS hL)
theorem rw_if_ne (F : tw_F K M d Q) {x : Int32} {off : Int} {tgt : Nat} (hd : decode M.2.1 pc = .ok (.ifCond .ne off, 3)) (ht : (pc : Int) + off = (tgt : Int)) (kt : ¬ x = 0 → tw_R K tgt ls st τ) (kf : x = 0 → tw_R K (pc + 3) ls st τ) : tw_R K pc ls (.int x :: st) τ := by
  obtain ⟨⟨p, e, R, s, m, args⟩, ⟨below, meth, c⟩, ⟨cells, slots, Z⟩, ⟨l, D, cy, ρ⟩⟩ := K
  obtain ⟨⟨hx, hb, hml, hown, hts, hG, hR1, hR2, hR3, hR4⟩, hRt⟩ := F
  intro H locs la hP hS hL
  exact lv_if_ne hx hb hd ht (fun h => kt h H locs la hP hS hL) (fun h => kf h H locs la hP hS hL)
theorem rw_icmp_ne (F : tw_F K M d Q) {x y : Int32} {off : Int} {tgt : Nat} (hd : decode M.2.1 pc = .ok (.if_icmp .ne off, 3)) (ht : (pc : Int) + off = (tgt : Int)) (kt : ¬ x = y → tw_R K tgt ls st τ) (kf : x = y → tw_R K (pc + 3) ls st τ) : tw_R K pc ls (.int y :: .int x :: st) τ := by
  obtain ⟨⟨p, e, R, s, m, args⟩, ⟨below, meth, c⟩, ⟨cells, slots, Z⟩, ⟨l, D, cy, ρ⟩⟩ := K
  obtain ⟨⟨hx, hb, hml, hown, hts, hG, hR1, hR2, hR3, hR4⟩, hRt⟩ := F
  intro H locs la hP hS hL
  exact lv_icmp_ne hx hb hd ht (fun h => kt h H locs la hP hS hL) (fun h => kf h H locs la hP hS hL)
theorem rw_if_lt (F : tw_F K M d Q) {x : Int32} {off : Int} {tgt : Nat} (hd : decode M.2.1 pc = .ok (.ifCond .lt off, 3)) (ht : (pc : Int) + off = (tgt : Int)) (kt : x < 0 → tw_R K tgt ls st τ) (kf : ¬ x < 0 → tw_R K (pc + 3) ls st τ) : tw_R K pc ls (.int x :: st) τ := by
  obtain ⟨⟨p, e, R, s, m, args⟩, ⟨below, meth, c⟩, ⟨cells, slots, Z⟩, ⟨l, D, cy, ρ⟩⟩ := K
  obtain ⟨⟨hx, hb, hml, hown, hts, hG, hR1, hR2, hR3, hR4⟩, hRt⟩ := F
  intro H locs la hP hS hL
  exact lv_if_lt hx hb hd ht (fun h => kt h H locs la hP hS hL) (fun h => kf h H locs la hP hS hL)
theorem rw_icmp_lt (F : tw_F K M d Q) {x y : Int32} {off : Int} {tgt : Nat} (hd : decode M.2.1 pc = .ok (.if_icmp .lt off, 3)) (ht : (pc : Int) + off = (tgt : Int)) (kt : x < y → tw_R K tgt ls st τ) (kf : ¬ x < y → tw_R K (pc + 3) ls st τ) : tw_R K pc ls (.int y :: .int x :: st) τ := by
  obtain ⟨⟨p, e, R, s, m, args⟩, ⟨below, meth, c⟩, ⟨cells, slots, Z⟩, ⟨l, D, cy, ρ⟩⟩ := K
  obtain ⟨⟨hx, hb, hml, hown, hts, hG, hR1, hR2, hR3, hR4⟩, hRt⟩ := F
  intro H locs la hP hS hL
  exact lv_icmp_lt hx hb hd ht (fun h => kt h H locs la hP hS hL) (fun h => kf h H locs la hP hS hL)
theorem rw_if_ge (F : tw_F K M d Q) {x : Int32} {off : Int} {tgt : Nat} (hd : decode M.2.1 pc = .ok (.ifCond .ge off, 3)) (ht : (pc : Int) + off = (tgt : Int)) (kt : 0 ≤ x → tw_R K tgt ls st τ) (kf : ¬ 0 ≤ x → tw_R K (pc + 3) ls st τ) : tw_R K pc ls (.int x :: st) τ := by
  obtain ⟨⟨p, e, R, s, m, args⟩, ⟨below, meth, c⟩, ⟨cells, slots, Z⟩, ⟨l, D, cy, ρ⟩⟩ := K
  obtain ⟨⟨hx, hb, hml, hown, hts, hG, hR1, hR2, hR3, hR4⟩, hRt⟩ := F
  intro H locs la hP hS hL
  exact lv_if_ge hx hb hd ht (fun h => kt h H locs la hP hS hL) (fun h => kf h H locs la hP hS hL)
theorem rw_icmp_ge (F : tw_F K M d Q) {x y : Int32} {off : Int} {tgt : Nat} (hd : decode M.2.1 pc = .ok (.if_icmp .ge off, 3)) (ht : (pc : Int) + off = (tgt : Int)) (kt : y ≤ x → tw_R K tgt ls st τ) (kf : ¬ y ≤ x → tw_R K (pc + 3) ls st τ) : tw_R K pc ls (.int y :: .int x :: st) τ := by
  obtain ⟨⟨p, e, R, s, m, args⟩, ⟨below, meth, c⟩, ⟨cells, slots, Z⟩, ⟨l, D, cy, ρ⟩⟩ := K
  obtain ⟨⟨hx, hb, hml, hown, hts, hG, hR1, hR2, hR3, hR4⟩, hRt⟩ := F
  intro H locs la hP hS hL
  exact lv_icmp_ge hx hb hd ht (fun h => kt h H locs la hP hS hL) (fun h => kf h H locs la hP hS hL)
theorem rw_if_gt (F : tw_F K M d Q) {x : Int32} {off : Int} {tgt : Nat} (hd : decode M.2.1 pc = .ok (.ifCond .gt off, 3)) (ht : (pc : Int) + off = (tgt : Int)) (kt : 0 < x → tw_R K tgt ls st τ) (kf : ¬ 0 < x → tw_R K (pc + 3) ls st τ) : tw_R K pc ls (.int x :: st) τ := by
  obtain ⟨⟨p, e, R, s, m, args⟩, ⟨below, meth, c⟩, ⟨cells, slots, Z⟩, ⟨l, D, cy, ρ⟩⟩ := K
  obtain ⟨⟨hx, hb, hml, hown, hts, hG, hR1, hR2, hR3, hR4⟩, hRt⟩ := F
  intro H locs la hP hS hL
  exact lv_if_gt hx hb hd ht (fun h => kt h H locs la hP hS hL) (fun h => kf h H locs la hP hS hL)
theorem rw_icmp_gt (F : tw_F K M d Q) {x y : Int32} {off : Int} {tgt : Nat} (hd : decode M.2.1 pc = .ok (.if_icmp .gt off, 3)) (ht : (pc : Int) + off = (tgt : Int)) (kt : y < x → tw_R K tgt ls st τ) (kf : ¬ y < x → tw_R K (pc + 3) ls st τ) : tw_R K pc ls (.int y :: .int x :: st) τ := by
  obtain ⟨⟨p, e, R, s, m, args⟩, ⟨below, meth, c⟩, ⟨cells, slots, Z⟩, ⟨l, D, cy, ρ⟩⟩ := K
  obtain ⟨⟨hx, hb, hml, hown, hts, hG, hR1, hR2, hR3, hR4⟩, hRt⟩ := F
  intro H locs la hP hS hL
  exact lv_icmp_gt hx hb hd ht (fun h => kt h H locs la hP hS hL) (fun h => kf h H locs la hP hS hL)
theorem rw_if_le (F : tw_F K M d Q) {x : Int32} {off : Int} {tgt : Nat} (hd : decode M.2.1 pc = .ok (.ifCond .le off, 3)) (ht : (pc : Int) + off = (tgt : Int)) (kt : x ≤ 0 → tw_R K tgt ls st τ) (kf : ¬ x ≤ 0 → tw_R K (pc + 3) ls st τ) : tw_R K pc ls (.int x :: st) τ := by
  obtain ⟨⟨p, e, R, s, m, args⟩, ⟨below, meth, c⟩, ⟨cells, slots, Z⟩, ⟨l, D, cy, ρ⟩⟩ := K
  obtain ⟨⟨hx, hb, hml, hown, hts, hG, hR1, hR2, hR3, hR4⟩, hRt⟩ := F
  intro H locs la hP hS hL
  exact lv_if_le hx hb hd ht (fun h => kt h H locs la hP hS hL) (fun h => kf h H locs la hP hS hL)
theorem rw_icmp_le (F : tw_F K M d Q) {x y : Int32} {off : Int} {tgt : Nat} (hd : decode M.2.1 pc = .ok (.if_icmp .le off, 3)) (ht : (pc : Int) + off = (tgt : Int)) (kt : x ≤ y → tw_R K tgt ls st τ) (kf : ¬ x ≤ y → tw_R K (pc + 3) ls st τ) : tw_R K pc ls (.int y :: .int x :: st) τ := by
  obtain ⟨⟨p, e, R, s, m, args⟩, ⟨below, meth, c⟩, ⟨cells, slots, Z⟩, ⟨l, D, cy, ρ⟩⟩ := K
  obtain ⟨⟨hx, hb, hml, hown, hts, hG, hR1, hR2, hR3, hR4⟩, hRt⟩ := F
  intro H locs la hP hS hL
  exact lv_icmp_le hx hb hd ht (fun h => kt h H locs la hP hS hL) (fun h => kf h H locs la hP hS hL)
theorem rw_goto (F : tw_F K M d Q) {off : Int} {tgt : Nat} (hd : decode M.2.1 pc = .ok (.goto off, 3)) (ht : (pc : Int) + off = (tgt : Int)) (k : tw_R K tgt ls st τ) : tw_R K pc ls st τ := by
  obtain ⟨⟨p, e, R, s, m, args⟩, ⟨below, meth, c⟩, ⟨cells, slots, Z⟩, ⟨l, D, cy, ρ⟩⟩ := K
  obtain ⟨⟨hx, hb, hml, hown, hts, hG, hR1, hR2, hR3, hR4⟩, hRt⟩ := F
  intro H locs la hP hS hL
  exact lv_goto hx hb hd ht (k H locs la hP hS hL)
theorem rw_tsw (F : tw_F K M d Q) {dflt lo hi : Int} {offs : Array Int} {len : Nat} {x : Int32} (hd : decode M.2.1 pc = .ok (.tableswitch dflt lo hi offs, len)) (tgt : Nat) (h : (x.toInt < lo ∨ hi < x.toInt) ∧ (pc : Int) + dflt = (tgt : Int) ∨ (¬ x.toInt < lo ∧ ¬ hi < x.toInt) ∧ ∃ off, offs[(x.toInt - lo).toNat]? = some off ∧ (pc : Int) + off = (tgt : Int)) (k : tw_R K tgt ls st τ) : tw_R K pc ls (.int x :: st) τ := by
  obtain ⟨⟨p, e, R, s, m, args⟩, ⟨below, meth, c⟩, ⟨cells, slots, Z⟩, ⟨l, D, cy, ρ⟩⟩ := K
  obtain ⟨⟨hx, hb, hml, hown, hts, hG, hR1, hR2, hR3, hR4⟩, hRt⟩ := F
  intro H locs la hP hS hL
  rcases h with ⟨h1, h2⟩ | ⟨⟨h1, h2⟩, off, h3, h4⟩
  · exact lv_tableOut hx hb hd h1 h2 (k H locs la hP hS hL)
  · exact lv_tableIn hx hb hd h1 h2 h3 h4 (k H locs la hP hS hL)
theorem rw_ldc (F : tw_F K M d Q) {index : Nat} {v : Int32} (hd : decode M.2.1 pc = .ok (.ldc index, 2)) (hw : Cond.constant M.1.cls index v ∈ tw_gT) (k : tw_R K (pc + 2) ls (.int v :: st) τ) : tw_R K pc ls st τ := by
  obtain ⟨⟨p, e, R, s, m, args⟩, ⟨below, meth, c⟩, ⟨cells, slots, Z⟩, ⟨l, D, cy, ρ⟩⟩ := K
  obtain ⟨⟨hx, hb, hml, hown, hts, hG, hR1, hR2, hR3, hR4⟩, hRt⟩ := F
  intro H locs la hP hS hL
  exact lv_ldc hx hb hown (hts _ hw) hd (k H locs la hP hS hL)
theorem rw_ldcw (F : tw_F K M d Q) {index : Nat} {v : Int32} (hd : decode M.2.1 pc = .ok (.ldc_w index, 3)) (hw : Cond.constant M.1.cls index v ∈ tw_gT) (k : tw_R K (pc + 3) ls (.int v :: st) τ) : tw_R K pc ls st τ := by
  obtain ⟨⟨p, e, R, s, m, args⟩, ⟨below, meth, c⟩, ⟨cells, slots, Z⟩, ⟨l, D, cy, ρ⟩⟩ := K
  obtain ⟨⟨hx, hb, hml, hown, hts, hG, hR1, hR2, hR3, hR4⟩, hRt⟩ := F
  intro H locs la hP hS hL
  exact lv_ldcw hx hb hown (hts _ hw) hd (k H locs la hP hS hL)
theorem rw_ldcS (F : tw_F K M d Q) {index : Nat} {tx : String} (i : Nat) (hd : decode M.2.1 pc = .ok (.ldc index, 2)) (hs : tw_strs[i]? = some (M.1.cls, index, tx)) (k : tw_R K (pc + 2) ls (.ref (202 + i) :: st) τ) : tw_R K pc ls st τ := by
  obtain ⟨⟨p, e, R, s, m, args⟩, ⟨below, meth, c⟩, ⟨cells, slots, Z⟩, ⟨l, D, cy, ρ⟩⟩ := K
  obtain ⟨⟨hx, hb, hml, hown, hts, hG, hR1, hR2, hR3, hR4⟩, hRt⟩ := F
  intro H locs la hP hS hL
  exact va_ldcS hx hb hown (hG.2.2.2.1 i _ hs) hd (k H locs la hP hS hL)
theorem rw_iret (F : tw_F K M d Q) {v : Int32} {ty : FieldType} (hd : decode M.2.1 pc = .ok (.ireturn, 1)) (hty : M.2.2.2 = some ty) (hn : narrow ty (.int v) = .int v) (hq : Q (some (.int v)) τ) : tw_R K pc ls [.int v] τ := F.2.1 pc ls τ v ty hty hd hn hq
theorem rw_lret (F : tw_F K M d Q) {v : Int64} (hd : decode M.2.1 pc = .ok (.lreturn, 1)) (hty : M.2.2.2 = some .long) (hq : Q (some (.long v)) τ) : tw_R K pc ls [.long v] τ := F.2.2.1 pc ls τ v hty hd hq
theorem rw_vret (F : tw_F K M d Q) (hd : decode M.2.1 pc = .ok (.return_, 1)) (hty : M.2.2.2 = none) (hq : Q none τ) : tw_R K pc ls [] τ := F.2.2.2 pc ls τ hty hd hq
end ROWS
