/-! ===== contracts of constructors ===== -/
def nw_AE (E : tw_E) : Prop := ∀ k, k < 202 → E.2.2.2 k = E.2.2.2 0 + k
def nw_Q (E : tw_E) (sz : Nat) (n' : Nat) (c' : Nat → Nat → Value) : Array Value → State → Outcome → State → Prop := fun _ st oc t => (oc = .returned none ∧ nw_P E.2.2.1 E.2.2.2 E.2.1 (n', c', 0, 0) t.heap) ∧ va_F (tw_A E.2.2.2 sz) st t
def tw_Cn (E : tw_E) (d mc ms : Nat) (M : Mt) (k n n' : Nat) (c c' : Nat → Nat → Value) : Prop :=
  ∀ sz : Nat, Met E.1 M.1 (Cond.code M.1 M.2.1 M.2.2.1 M.2.2.2 :: tw_gT) { frames := d, cells := mc, slots := ms, locals := 64 * d } (va_Pc [.ref (E.2.2.2 k)] (fun U => U.heap.size = sz ∧ nw_P E.2.2.1 E.2.2.2 E.2.1 (n, c, 0, 0) U.heap ∧ tw_G E U ∧ nw_O U)) (nw_Q E sz n' c') mc ms (tw_A E.2.2.2 sz)
theorem nw_of {E : tw_E} {d mc ms : Nat} {M : Mt} {k n n' : Nat} {c c' : Nat → Nat → Value} (hE : nw_AE E) (hpl : plainName M.1.cls = true) (hname : M.1.name = "<init>") (hret : M.2.2.2 = none) (h1 : 1 ≤ M.2.2.1)
    (body : ∀ K : tw_K, K.2.2.2 = E → K.2.1.2.1.name = "<init>" → K.2.2.1.1 = mc → K.2.2.1.2.1 = ms → tw_FN K M d → (∀ pc ls, decode M.2.1 pc = .ok (.return_, 1) → tw_N K pc ls [] (n', c', mc, ms)) → tw_N K 0 ([.ref k] ++ List.replicate (M.2.2.1 - 1) .null) [] (n, c, 0, 0)) : tw_Cn E d mc ms M k n n' c c' := by
  obtain ⟨l, D, cy, ρ⟩ := E
  intro sz
  refine Met.ofW (cc := M.2.1) (maxL := M.2.2.1) (ret := M.2.2.2) hpl rfl ?_
  intro p e s m args below meth cd s₁ B hml hv
  obtain ⟨hargs, hsz, hP, hG, hO⟩ := hv
  have hx := B.exec
  have hb := B.bytes
  have hr := B.returns
  have hts := atoms_spec (ws := Cond.code M.1 M.2.1 M.2.2.1 M.2.2.2 :: tw_gT) B.pre
  have hown : s.vm.findClass M.1.cls = some m.cls := findClass_of_methodNamed B.named
  have hlocks := B.notSynchronized
  have hin : meth.name = "<init>" := (name_of_methodNamed B.named B.method).1.trans hname
  have h1' : ∀ v ∈ ([.ref k] : List Value).map (tw_tr ρ), v.category = 1 := by
    intro v hv
    obtain ⟨w, hw, rfl⟩ := List.mem_map.mp hv
    rw [tr_cat]
    obtain rfl : w = .ref k := by simpa using hw
    rfl
  have hL := Lv_entry (vs := ([.ref k] : List Value).map (tw_tr ρ)) (n := M.2.2.1) h1' (by simpa using h1)
  subst hsz
  have hK := body ((p, e, { frames := d, cells := mc, slots := ms, locals := 64 * d }, s, m, args), (below, meth, cd), (mc, ms, MQ below (nw_Q (l, D, cy, ρ) s.heap.size n' c') args s mc ms (tw_A ρ s.heap.size)), (l, D, cy, ρ)) rfl hin rfl rfl
    ⟨⟨hx, hb, hml, hown, fun w hw => hts w (List.mem_cons_of_mem _ hw), hG, Nat.le_refl _, Nat.le_refl _, Nat.le_refl _, Nat.le_refl _⟩, hE, hO⟩
    (fun pc ls hd H locs la hP hS _ => W.vret hx hb (hr.trans hret) (fun t ht hW => ⟨⟨rfl, by rw [ht]; exact hP⟩, hS.F ht⟩) hS.2.2 hd hlocks) s.heap [] _ hP va_S.rf (by rw [hml]; simpa [List.map_append, List.map_replicate, tw_tr] using hL)
  rw [hargs]
  dsimp only
  rw [lg_entry_eq]
  rw [← hargs]
  exact hK
section NCALL
variable {K : tw_K} {M : Mt} {d : Nat} {pc : Nat} {ls st : List Value} {X : nw_X}
theorem nw_objInit (F : tw_FN K M d) {index k : Nat} (hd : decode M.2.1 pc = .ok (.invokespecial index, 3)) (hw : Cond.methodLink M.1.cls index Lib.objectInit ∈ tw_gT) (hi : Cond.instanceMethod Lib.objectInit ∈ tw_gT) (hc : Cond.code Lib.objectInit ⟨#[0xb1]⟩ 1 none ∈ tw_gT) (hd1 : 1 ≤ d) (hr : (st.map fun v => v.category).sum ≤ 8) (kk : tw_N K (pc + 3) ls st X) : tw_N K pc ls (.ref k :: st) X := by
  obtain ⟨⟨p, e, R, s, m, args⟩, ⟨below, meth, c⟩, ⟨cells, slots, Z⟩, ⟨l, D, cy, ρ⟩⟩ := K
  obtain ⟨⟨hx, hb, hml, hown, hts, hG, hR1, hR2, hR3, hR4⟩, hA⟩ := F
  intro H locs la hP hS hL
  have h8 := st_room (ρ := ρ) hr
  exact W.objInit hx hb hown (hts _ hw) (hts _ hi) (hts _ hc) rfl hL.1 rfl hd (by omega) (by show 2 * 0 + _ + 12 ≤ R.locals; omega) (kk H locs la hP hS hL)
theorem nw_end {p : Program} {e : Env} {R : Room} {s : State} {m : MethodId} {args : Array Value} {below : List Frame} {meth : Method} {c : Code} {cells slots : Nat} {Z : State → Prop} {l : Launch} {D : va_G} {cy : Nat → ClassId} {ρ : Nat → Nat} {H : Heap} {locs : List Loc} {la : Array Slot} {stk : List Value} {mc ms n' : Nat} {c' : Nat → Nat → Value} {a : Array Value} (hS : va_S (tw_A ρ s.heap.size) s.heap H locs) (hL : tw_Lv la c.maxLocals (ls.map (tw_tr ρ)))
    (hr : va_Run p l e R s m args below meth c H locs X.2.2.1 X.2.2.2 mc ms (F0 m pc la (stk.map (tw_tr ρ))) (st.map (tw_tr ρ)) (nw_Q (l, D, cy, ρ) H.size n' c' a) (tw_A ρ H.size))
    (cont : tw_N ((p, e, R, s, m, args), (below, meth, c), (cells, slots, Z), (l, D, cy, ρ)) (pc + 3) ls st (n', c', X.2.2.1 + mc, X.2.2.2 + ms)) : W p l e R s m args below meth c H locs X.2.2.1 X.2.2.2 Z (F0 m pc la (stk.map (tw_tr ρ))) := by
  intro T hT X0
  obtain ⟨v, st₀, t, T', L, h0, X', hL', e1, e2, ⟨⟨hv, hP'⟩, hz, hk⟩, stp⟩ := hr T hT X0
  cases hv
  rw [h0] at hz hk
  have hin : ∀ q, tw_A ρ H.size q → tw_A ρ s.heap.size q := fun q hq => hq.elim Or.inl (fun h => Or.inr (Nat.le_trans hS.1 h))
  obtain ⟨t2, a1, b1⟩ := cont T'.heap (locs ++ L) la (by rw [e1]; exact hP')
    ⟨Nat.le_trans hS.1 (by rw [e1]; exact hz), fun q h1 h2 => by rw [e1, hk q (Nat.lt_of_lt_of_le h1 hS.1) (fun z => h2 (hin q z))]; exact hS.2.1 q h1 h2, fun q hq => by
      rcases List.mem_append.mp hq with h | h
      · exact hS.2.2 q h
      · exact hin _ (hL' q h)⟩ hL T' rfl X'
  exact ⟨t2, stp t2 a1, b1⟩
theorem nw_call (F : tw_FN K M d) {M' : Mt} {d' mc ms index k n' : Nat} {c' : Nat → Nat → Value} (hd : decode M.2.1 pc = .ok (.invokespecial index, 3)) (hcode : Cond.code M'.1 M'.2.1 M'.2.2.1 M'.2.2.2 ∈ tw_gT) (hini : Cond.initialized M'.1.cls ∈ tw_gT) (hins : Cond.instanceMethod M'.1 ∈ tw_gT) (hnm : M'.1.cls ≠ "java/lang/invoke/MethodHandle" ∧ M'.1.cls ≠ "java/lang/invoke/VarHandle" ∧ (parseMethodDescriptor M'.1.desc).map (fun d => d.parameters.length) = some 0) (hname : M'.1.name = "<init>") (hret : M'.2.2.2 = none) (hloc : M'.2.2.1 ≤ 45) (hw : Cond.methodLink M.1.cls index M'.1 ∈ tw_gT) (hdd : d' < d) (hr : (st.map fun v => v.category).sum ≤ 8) (hcells : X.2.2.1 + mc ≤ K.2.2.1.1) (hslots : X.2.2.2 + ms ≤ K.2.2.1.2.1)
    (hC : tw_Cn K.2.2.2 d' mc ms M' k X.1 n' X.2.1 c') (kk : tw_N K (pc + 3) ls st (n', c', X.2.2.1 + mc, X.2.2.2 + ms)) : tw_N K pc ls (.ref k :: st) X := by
  obtain ⟨⟨p, e, R, s, m, args⟩, ⟨below, meth, c⟩, ⟨cells, slots, Z⟩, ⟨l, D, cy, ρ⟩⟩ := K
  obtain ⟨⟨hx, hb, hml, hown, hts, hG, hR1, hR2, hR3, hR4⟩, hA⟩ := F
  obtain ⟨y, bytes, maxL, ret⟩ := M'
  obtain rfl : ret = none := hret
  intro H locs la hP hS hL
  have h8 := st_room (ρ := ρ) hr
  have hl45 : maxL ≤ 45 := hloc
  refine nw_end (X := X) (stk := .ref k :: st) (a := #[.ref (ρ k)]) hS hL ?_ kk
  exact va_runI (As := []) (rest := st.map (tw_tr ρ)) (b := ρ k) ⟨hx, hb, hml, hown, hts⟩ (hC H.size) (cwI 0 hts (fun w h => gT_good hcode w h) rfl rfl rfl (hts _ hini) (hts _ hw) (hts _ hins) hname hnm ⟨by show d' + 1 ≤ R.frames; omega, by show 8 + (maxL + 11) + 64 * d' ≤ R.locals; omega⟩) ⟨fun a U g mk q => ⟨q.1, q.2.1, q.2.2.1, G_blind q.2.2.2.1, fun C hC => (q.2.2.2.2 C hC).moved (U := U.calling g mk a) (Vm.Alike.refl U.vm)⟩, fun U hU hW => ⟨rfl, by rw [hU], by rw [hU]; exact hP, G_step hG hS hU hW, fun C hC => (hA.2 C hC).moved hW.alike⟩⟩ rfl rfl (hL.1.trans hml) rfl (lv_room h8) hd ⟨Nat.le_trans hcells hR3, Nat.le_trans hslots hR4⟩
theorem nw_callN (F : tw_FN K M d) {M' : Mt} {d' mc ms index k n' : Nat} {c' : Nat → Nat → Value} (hd : decode M.2.1 pc = .ok (.invokespecial index, 3)) (hcode : Cond.code M'.1 M'.2.1 M'.2.2.1 M'.2.2.2 ∈ tw_gT) (hini : Cond.initialized M'.1.cls ∈ tw_gT) (hins : Cond.instanceMethod M'.1 ∈ tw_gT) (hnm : M'.1.cls ≠ "java/lang/invoke/MethodHandle" ∧ M'.1.cls ≠ "java/lang/invoke/VarHandle" ∧ (parseMethodDescriptor M'.1.desc).map (fun d => d.parameters.length) = some 0) (hname : M'.1.name = "<init>") (hret : M'.2.2.2 = none) (hloc : M'.2.2.1 ≤ 45) (hw : (M.1.cls, index, M'.1) ∈ tw_nest) (hdd : d' < d) (hr : (st.map fun v => v.category).sum ≤ 8) (hcells : X.2.2.1 + mc ≤ K.2.2.1.1) (hslots : X.2.2.2 + ms ≤ K.2.2.1.2.1)
    (hC : tw_Cn K.2.2.2 d' mc ms M' k X.1 n' X.2.1 c') (kk : tw_N K (pc + 3) ls st (n', c', X.2.2.1 + mc, X.2.2.2 + ms)) : tw_N K pc ls (.ref k :: st) X := by
  obtain ⟨⟨p, e, R, s, m, args⟩, ⟨below, meth, c⟩, ⟨cells, slots, Z⟩, ⟨l, D, cy, ρ⟩⟩ := K
  obtain ⟨⟨hx, hb, hml, hown, hts, hG, hR1, hR2, hR3, hR4⟩, hA⟩ := F
  obtain ⟨y, bytes, maxL, ret⟩ := M'
  obtain rfl : ret = none := hret
  intro H locs la hP hS hL
  have h8 := st_room (ρ := ρ) hr
  have hl45 : maxL ≤ 45 := hloc
  refine nw_end (X := X) (stk := .ref k :: st) (a := #[.ref (ρ k)]) hS hL ?_ kk
  exact va_runIN (As := []) (rest := st.map (tw_tr ρ)) (b := ρ k) ⟨hx, hb, hml, hown, hts⟩ (hC H.size) ⟨va_cnB 0 hts (fun w h => gT_good hcode w h) rfl rfl rfl (hG.2.2.1 _ hw) (hts _ hini) hnm ⟨by show d' + 1 ≤ R.frames; omega, by show 8 + (maxL + 11) + 64 * d' ≤ R.locals; omega⟩, hname, hts _ hins⟩ ⟨fun a U g mk q => ⟨q.1, q.2.1, q.2.2.1, G_blind q.2.2.2.1, fun C hC => (q.2.2.2.2 C hC).moved (U := U.calling g mk a) (Vm.Alike.refl U.vm)⟩, fun U hU hW => ⟨rfl, by rw [hU], by rw [hU]; exact hP, G_step hG hS hU hW, fun C hC => (hA.2 C hC).moved hW.alike⟩⟩ rfl rfl (hL.1.trans hml) rfl (lv_room h8) hd ⟨Nat.le_trans hcells hR3, Nat.le_trans hslots hR4⟩
end NCALL
