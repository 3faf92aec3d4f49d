/-! THE CLAIM OUT OF ONE WALK OF THE LAW'S BODY. Your part is whole_start (and what it stands on); all else here is the same for every law, but numbers. -/
def R_law : String := "TwinLightsLaw"
def lw_P (b : Addr) (xs : List Int32) (args : Array Value) (s : State) : Prop := args = #[.ref b] ∧ s.IntsAt b xs ∧ xs.length ≤ 3072 ∧ (Jvm.Cond.and given_1 narrow_1).before args s = true
def lw_Q (_ : Array Value) (s : State) (o : Outcome) (t : State) : Prop := o = .returned (some (.int 1)) ∧ Framed s o t [] 600000 7302250
def lw_Z (below : List Frame) (a : Array Value) (s : State) : State → Prop := fun t => ∃ o, t.status = .running ∧ Ended t below o ∧ lw_Q a s o t
/-- the law's own end, with 1 on the stack, nothing written that was there before, its room as the claim has it -/
theorem lw_ret {p : Program} {l : Launch} {e : Env} {s : State} {m : MethodId} {below : List Frame} {meth : Method} {c : Code} {b : Nat} (hx : p.tables.exec = Jvm.exec) (hb : c.code = code) (hr : meth.sig.returnType = ret) (hlocks : meth.locks = false) {pc : Nat} {H : Heap} {ls : Array Slot} (hdg : decode code pc = .ok (.ireturn, 1)) : W p l e room_1 s m #[Value.ref b] below meth c H [] 600000 7302250 (lw_Z below #[Value.ref b] s) (F0 m pc ls [.int 1]) := by
  intro T hT X
  obtain ⟨fs, hret, hrun, hended, hW, hframe⟩ := X.leave (v := some (.int 1)) (hlocks := hlocks) (fun h => by rw [hr] at h; cases h)
  have hmeth' : T.vm.method? m = some meth := X.method'
  refine ⟨T.setFrames fs, ?_, .returned (some (.int 1)), hrun, hended, rfl, ⟨_, rfl⟩, hW, hframe⟩
  jvm_step X.here [X.here.top, hx, hb, hdg, hmeth', hr, ret, narrow_b1]
  (try refine ⟨rfl, ?_⟩); (try refine ⟨rfl, ?_⟩)
  first | (intro acts; rw [hret _ acts rfl rfl rfl]) | rw [hret _ _ rfl rfl rfl]
  exact Steps.refl _
/-- what holds at the law's entry: the machine, the code, the tables' words (any of lw_tbl by 'hts w (by decide +kernel)'), the script of L ints xs at the cell b, what the Statement gives of the start (any of its parts by flat_of_before) -/
def lw_At (p : Program) (s : State) (m : MethodId) (meth : Method) (c : Code) (b L : Nat) (xs : Nat → Int32) : Prop :=
  p.tables.exec = Jvm.exec ∧ c.code = code ∧ meth.sig.returnType = ret ∧ c.maxLocals = 4 ∧ s.vm.findClass R_law = some m.cls ∧ (∀ w ∈ lw_tbl, w.before #[Value.ref b] s = true) ∧ va_X b L xs s s.heap ∧ b < s.heap.size ∧ meth.locks = false ∧ (Jvm.Cond.and given_1 narrow_1).before #[Value.ref b] s = true
/-! ===== the walk from the entry ===== -/
theorem whole_start {p : Program} {e : Env} {s : State} {m : MethodId} {below : List Frame} {meth : Method} {c : Code} (l : Launch) (hflags : l.flags = flags0) {b L : Nat} {xs : Nat → Int32} (hL : L ≤ 3072) (C0 : lw_At p s m meth c b L xs) : W p l e room_1 s m #[Value.ref b] below meth c s.heap [] 0 0 (lw_Z below #[Value.ref b] s) (entryFrame m ([Value.ref b] : List Value).toArray 4) := by
  obtain ⟨hx, hb, hr, hml, hown, hts, hX, hbl, hlocks, hgv⟩ := id C0
  obtain ⟨D, cy, ρ, hG, hρ, hρb, hA⟩ := st_G l b hts hgv
  have hρ0 : ρ 0 = s.heap.size := hρ 0 (by decide)
  have hE : nw_AE (l, D, cy, ρ) := fun k hk => by
    show ρ k = ρ 0 + k
    rw [hρ k hk, hρ0]
  have C : tw_C ((p, e, room_1, s, m, #[Value.ref b]), (below, meth, c), (600000, 7302250, lw_Z below #[Value.ref b] s), (l, D, cy, ρ)) mL_law.1.cls mL_law.2.1 mL_law.2.2.1 40 := ⟨hx, hb, hml, hown, gT_of hts, hG, Nat.le_of_ble_eq_true rfl, Nat.le_of_ble_eq_true rfl, Nat.le_refl _, Nat.le_refl _⟩
  have F1 : tw_FN ((p, e, room_1, s, m, #[Value.ref b]), (below, meth, c), (600000, 7302250, lw_Z below #[Value.ref b] s), (l, D, cy, ρ)) mL_law 40 := ⟨C, fun k hk => hE k hk, st_O hts⟩
  have Rt : tw_Rt ((p, e, room_1, s, m, #[Value.ref b]), (below, meth, c), (600000, 7302250, lw_Z below #[Value.ref b] s), (l, D, cy, ρ)) mL_law.2.1 mL_law.2.2.2 (fun v _ => v = some (.int 1)) := by
    refine ⟨fun pc ls τ v ty hret hd hn hq => ?_, fun pc ls τ v hret => ?_, fun pc ls τ hret => ?_⟩
    · obtain rfl : v = 1 := Value.int.inj (Option.some.inj hq)
      intro H locs la hP hS hLv
      refine va_forget (fun q hq => ?_) (lw_ret hx hb hr hlocks hd)
      rcases hS.2.2 q hq with ⟨k, hk, e1⟩ | h1
      · rw [e1, hρ k hk]
        exact Nat.le_add_right _ _
      · exact h1
    · have h1 : ret = some .long := hret
      cases h1
    · have h1 : ret = none := hret
      cases h1
  have F2 : tw_F ((p, e, room_1, s, m, #[Value.ref b]), (below, meth, c), (600000, 7302250, lw_Z below #[Value.ref b] s), (l, D, cy, ρ)) mL_law 40 (fun v _ => v = some (.int 1)) := ⟨C, Rt⟩
  have S : tw_S ((p, e, room_1, s, m, #[Value.ref b]), (below, meth, c), (600000, 7302250, lw_Z below #[Value.ref b] s), (l, D, cy, ρ)) L xs := by
    show va_X (ρ 260) L xs s s.heap ∧ ρ 260 < s.heap.size ∧ ¬ tw_A ρ s.heap.size (ρ 260)
    rw [hρb]
    exact ⟨hX, hbl, hA b hbl⟩
  have lp := law_loop F2 S hL (fun _ => rfl) L 0 tau0 (by omega) Inv_0
  rw [show nI (6 * 0) = 0 from rfl] at lp
  have kk : tw_N ((p, e, room_1, s, m, #[Value.ref b]), (below, meth, c), (600000, 7302250, lw_Z below #[Value.ref b] s), (l, D, cy, ρ)) 18 [.ref 260, .ref 0, .ref 190, .int 0] [] (202, cF c00, 202, 2670) := by
    intro H locs la hP hS hLv
    exact W.widen (k := 600000) (n := 7302250) (Nat.le_of_ble_eq_true rfl) (Nat.le_of_ble_eq_true rfl) (lp H locs la (start_P hP.2) hS hLv)
  have h0 := law_new (c := c00) hE F1 rfl rfl kk
  have hLv : tw_Lv ((lg_sl ([.ref b] : List Value) ++ List.replicate (4 - (lg_sl ([.ref b] : List Value)).length) Slot.unset).toArray) c.maxLocals (([.ref 260, .null, .null, .null] : List Value).map (tw_tr ρ)) := by
    have e1 : (([.ref 260, .null, .null, .null] : List Value).map (tw_tr ρ)) = ([.ref b] : List Value) ++ List.replicate (4 - ([.ref b] : List Value).length) .null := by
      rw [← hρb]
      rfl
    rw [hml, e1]
    exact Lv_entry (vs := ([.ref b] : List Value)) (n := 4) (fun v hv => by
      obtain rfl : v = .ref b := by simpa using hv
      rfl) (Nat.le_of_ble_eq_true rfl)
  rw [lg_entry_eq]
  exact h0 s.heap [] _ ⟨hρ0.symm, fun k q hq => by simp [tw_wD] at hq⟩ va_S.rf hLv
