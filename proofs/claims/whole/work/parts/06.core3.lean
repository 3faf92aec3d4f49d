/-! ===== rows that read and write the store ===== -/
def tw_fl (own : String) (idx ci j : Nat) : Prop := ∃ q : vw_C, vwCl[ci]? = some q ∧ j < q.2.2 ∧ Cond.fieldLink own idx (q.2.1 j).1 (q.2.1 j).2.1 (q.2.1 j).2.2.1 ∈ tw_gT
def tw_pf (own : String) (idx ci j : Nat) (ty : FieldType) : Prop := ∃ q : vw_C, vwCl[ci]? = some q ∧ j < q.2.2 ∧ Cond.fieldLink own idx (q.2.1 j).1 (q.2.1 j).2.1 (q.2.1 j).2.2.1 ∈ tw_gT ∧ (q.2.1 j).2.2.2 = false ∧ parseFieldDescriptor (q.2.1 j).2.2.1 = some ty
theorem vwCl_lt {ci : Nat} {q : vw_C} (h : vwCl[ci]? = some q) : ci < 10 := (List.getElem?_eq_some_iff.mp h).1
theorem sh_of {k ci : Nat} {q : vw_C} (hk : tw_isK k ci = true) (hq : vwCl[ci]? = some q) : tw_sh k = (ci, q.2.2) := by
  obtain ⟨h1, h2⟩ := isK_of hk
  have h3 := sh_len k h1 ci (vwCl_lt hq) h2 q hq
  exact Prod.ext h2 h3.symm
theorem wS_obj {cy : Nat → ClassId} {ρ : Nat → Nat} {τ : tw_T} {k ci : Nat} {q : vw_C} (hk : tw_isK k ci = true) (hq : vwCl[ci]? = some q) : (tw_wS cy ρ τ)[k]? = some (ρ k, .inr (ci, (List.range q.2.2).map (fun j => tw_tr ρ (tw_lift τ k j)))) := by
  unfold tw_wS
  rw [wD_get (isK_of hk).1, sh_of hk hq, cE_obj (vwCl_lt hq)]
theorem vi_lift {τ : tw_T} {k : Nat} (hk : tw_isK k 10 = true) (j : Nat) : tw_vi (tw_lift τ k j) = τ k j := by
  simp [tw_lift, lk_int0 (isK_of hk).1 (isK_of hk).2 j, tw_vi]
theorem wS_int {cy : Nat → ClassId} {ρ : Nat → Nat} {τ : tw_T} {k : Nat} (hk : tw_isK k 10 = true) : (tw_wS cy ρ τ)[k]? = some (ρ k, .inl (cy 0, (tw_sh k).2, .inl (τ k))) := by
  unfold tw_wS
  have h : tw_sh k = (10, (tw_sh k).2) := Prod.ext (isK_of hk).2 rfl
  rw [wD_get (isK_of hk).1, h, cE_int]
  have e : (fun j => tw_vi (tw_lift τ k j)) = τ k := funext (vi_lift hk)
  rw [e]
theorem wS_ref {cy : Nat → ClassId} {ρ : Nat → Nat} {τ : tw_T} {k t : Nat} (hk : tw_isK k t = true) (ht : 10 < t) : (tw_wS cy ρ τ)[k]? = some (ρ k, .inl (cy (t - 10), (tw_sh k).2, .inr (.inr (.inr (.inr (fun j => tw_vr ρ (tw_lift τ k j))))))) := by
  unfold tw_wS
  have h : tw_sh k = (t, (tw_sh k).2) := Prod.ext (isK_of hk).2 rfl
  rw [wD_get (isK_of hk).1, h, cE_ref ht]
theorem wS_D {cy : Nat → ClassId} {ρ : Nat → Nat} {τ : tw_T} {sz : Nat} (hinj : ∀ i j : Nat, i < 202 → j < 202 → ρ i = ρ j → i = j) : va_D (tw_A ρ sz) (tw_wS cy ρ τ) := wD_D hinj (fun k hk => Or.inl ⟨k, hk, rfl⟩)
theorem wS_row {cy : Nat → ClassId} {ρ : Nat → Nat} {τ : tw_T} {k : Nat} (hk : tw_isK k 10 = true) (f : Nat → Int32) : (tw_wS cy ρ τ).set k (ρ k, .inl (cy 0, (tw_sh k).2, .inl f)) = tw_wS cy ρ (tw_sr τ k f) := by
  have h : tw_sh k = (10, (tw_sh k).2) := Prod.ext (isK_of hk).2 rfl
  have e : (Sum.inl (cy 0, (tw_sh k).2, Sum.inl f) : va_E) = tw_cE cy ρ (tw_sh k) (fun i => .int (f i)) := by
    rw [h, cE_int]
    rfl
  rw [e]
  unfold tw_wS
  rw [wD_set, lift_row (lk_int0 (isK_of hk).1 (isK_of hk).2)]
theorem tys_at {cy : Nat → ClassId} {t : Nat} (h1 : 10 < t) (h2 : t ≤ 14) : ∃ C, (tw_tys cy)[t - 10]? = some (cy (t - 10), .object C) := by
  rcases (show t = 11 ∨ t = 12 ∨ t = 13 ∨ t = 14 by omega) with rfl | rfl | rfl | rfl <;> exact ⟨_, rfl⟩
section ROWS3
variable {K : tw_K} {M : Mt} {d : Nat} {Q : Option Value → tw_T → Prop} {pc : Nat} {ls st : List Value} {τ : tw_T}
theorem rw_getI (F : tw_F K M d Q) {index ci j k : Nat} (hd : decode M.2.1 pc = .ok (.getfield index, 3)) (fl : tw_fl M.1.cls index ci j) (hk : tw_isK k ci = true) (hl : tw_lk k j = 0) (kk : tw_R K (pc + 3) ls (.int (τ k j) :: st) τ) : tw_R K pc ls (.ref k :: st) τ := by
  obtain ⟨⟨p, e, R, s, m, args⟩, ⟨below, meth, c⟩, ⟨cells, slots, Z⟩, ⟨l, D, cy, ρ⟩⟩ := K
  obtain ⟨⟨hx, hb, hml, hown, hts, hG, hR1, hR2, hR3, hR4⟩, hRt⟩ := F
  obtain ⟨q, hq, hj, hw⟩ := fl
  intro H locs la hP hS hL
  refine va_get (C := q.1) (T := q.2.1) (N := q.2.2) hx hb hts (cw_all ci q hq).1 hown hG.2.1 hP k (wS_obj hk hq) hq j hj (hts _ hw) (fun _ h => h) (fs_at hj) hd ?_
  have e1 : tw_tr ρ (tw_lift τ k j) = .int (τ k j) := by simp [tw_lift, hl, tw_tr]
  rw [e1]
  exact kk H locs la hP hS hL
theorem rw_getR (F : tw_F K M d Q) {index ci j k r : Nat} (hd : decode M.2.1 pc = .ok (.getfield index, 3)) (fl : tw_fl M.1.cls index ci j) (hk : tw_isK k ci = true) (hl : tw_lk k j = r + 1) (kk : tw_R K (pc + 3) ls (.ref r :: st) τ) : tw_R K pc ls (.ref k :: st) τ := by
  obtain ⟨⟨p, e, R, s, m, args⟩, ⟨below, meth, c⟩, ⟨cells, slots, Z⟩, ⟨l, D, cy, ρ⟩⟩ := K
  obtain ⟨⟨hx, hb, hml, hown, hts, hG, hR1, hR2, hR3, hR4⟩, hRt⟩ := F
  obtain ⟨q, hq, hj, hw⟩ := fl
  intro H locs la hP hS hL
  refine va_get (C := q.1) (T := q.2.1) (N := q.2.2) hx hb hts (cw_all ci q hq).1 hown hG.2.1 hP k (wS_obj hk hq) hq j hj (hts _ hw) (fun _ h => h) (fs_at hj) hd ?_
  have e1 : tw_tr ρ (tw_lift τ k j) = .ref (ρ r) := by simp [tw_lift, hl, tw_tr]
  rw [e1]
  exact kk H locs la hP hS hL
theorem rw_put (F : tw_F K M d Q) {index ci j k : Nat} {ty : FieldType} {v : Int32} (hd : decode M.2.1 pc = .ok (.putfield index, 3)) (pf : tw_pf M.1.cls index ci j ty) (hk : tw_isK k ci = true) (hl : tw_lk k j = 0) (hn : narrow ty (.int v) = .int v) (hf : fits ty (.int v) = true) (kk : tw_R K (pc + 3) ls st (tw_sr τ k (upd (τ k) j v))) : tw_R K pc ls (.int v :: .ref k :: st) τ := by
  obtain ⟨⟨p, e, R, s, m, args⟩, ⟨below, meth, c⟩, ⟨cells, slots, Z⟩, ⟨l, D, cy, ρ⟩⟩ := K
  obtain ⟨⟨hx, hb, hml, hown, hts, hG, hR1, hR2, hR3, hR4⟩, hRt⟩ := F
  obtain ⟨q, hq, hj, hw, hfin, hdsc⟩ := pf
  obtain ⟨hcw, ⟨ty0, hty0⟩, hnm⟩ := cw_all ci q hq
  intro H locs la hP hS hL
  refine va_put (C := q.1) (T := q.2.1) (N := q.2.2) (ty := ty) (v := .int v) hx hb hts hcw ty0 hty0 hnm hown hG.2.1 hP (wS_D hG.1) hS k (wS_obj hk hq) hq j hj (hts _ hw) (fun _ h => h) hfin hdsc hn hf (by simpa using hj) hd (fun H1 locs1 hP1 _ hS1 => ?_)
  have e2 : (Sum.inr (ci, ((List.range q.2.2).map (fun j => tw_tr ρ (tw_lift τ k j))).set j (.int v)) : va_E) = tw_cE cy ρ (tw_sh k) (fun i => if i = j then .int v else tw_lift τ k i) := by
    rw [sh_of hk hq, cE_obj (vwCl_lt hq)]
    have := fs_set (ρ := ρ) (f := tw_lift τ k) (m := q.2.2) (j := j) (.int v)
    rw [show tw_tr ρ (.int v) = .int v from rfl] at this
    rw [this]
  have e1 : (tw_wS cy ρ τ).set k (ρ k, .inr (ci, ((List.range q.2.2).map (fun j => tw_tr ρ (tw_lift τ k j))).set j (.int v))) = tw_wS cy ρ (tw_sr τ k (upd (τ k) j v)) := by
    rw [e2]
    unfold tw_wS
    rw [wD_set, lift_put hl]
  rw [e1] at hP1
  exact kk H1 locs1 la hP1 hS1 hL
theorem rw_iald (F : tw_F K M d Q) {k : Nat} {i : Int32} (hd : decode M.2.1 pc = .ok (.iaload, 1)) (hk : tw_isK k 10 = true) (hin : vp_in i (tw_sh k).2) (kk : tw_R K (pc + 1) ls (.int (τ k i.toNatClampNeg) :: st) τ) : tw_R K pc ls (.int i :: .ref k :: st) τ := by
  obtain ⟨⟨p, e, R, s, m, args⟩, ⟨below, meth, c⟩, ⟨cells, slots, Z⟩, ⟨l, D, cy, ρ⟩⟩ := K
  obtain ⟨⟨hx, hb, hml, hown, hts, hG, hR1, hR2, hR3, hR4⟩, hRt⟩ := F
  intro H locs la hP hS hL
  exact va_iald hx hb hG.2.1 hP k 0 (wS_int hk) rfl hin hd (kk H locs la hP hS hL)
theorem rw_iast (F : tw_F K M d Q) {k : Nat} {i v : Int32} (hd : decode M.2.1 pc = .ok (.iastore, 1)) (hk : tw_isK k 10 = true) (hin : vp_in i (tw_sh k).2) (kk : tw_R K (pc + 1) ls st (tw_sr τ k (upd (τ k) i.toNatClampNeg v))) : tw_R K pc ls (.int v :: .int i :: .ref k :: st) τ := by
  obtain ⟨⟨p, e, R, s, m, args⟩, ⟨below, meth, c⟩, ⟨cells, slots, Z⟩, ⟨l, D, cy, ρ⟩⟩ := K
  obtain ⟨⟨hx, hb, hml, hown, hts, hG, hR1, hR2, hR3, hR4⟩, hRt⟩ := F
  intro H locs la hP hS hL
  refine va_iast hx hb hG.2.1 hP (wS_D hG.1) hS k 0 (wS_int hk) rfl hin hd (fun H1 locs1 hP1 _ hS1 => ?_)
  rw [wS_row hk] at hP1
  exact kk H1 locs1 la hP1 hS1 hL
theorem rw_aald (F : tw_F K M d Q) {k t r : Nat} {i : Int32} (hd : decode M.2.1 pc = .ok (.aaload, 1)) (hk : tw_isK k t = true) (ht : 10 < t) (hin : vp_in i (tw_sh k).2) (hr : tw_lk k i.toNatClampNeg = r + 1) (kk : tw_R K (pc + 1) ls (.ref r :: st) τ) : tw_R K pc ls (.int i :: .ref k :: st) τ := by
  obtain ⟨⟨p, e, R, s, m, args⟩, ⟨below, meth, c⟩, ⟨cells, slots, Z⟩, ⟨l, D, cy, ρ⟩⟩ := K
  obtain ⟨⟨hx, hb, hml, hown, hts, hG, hR1, hR2, hR3, hR4⟩, hRt⟩ := F
  intro H locs la hP hS hL
  have h14 := sh_small k (isK_of hk).1
  rw [(isK_of hk).2] at h14
  obtain ⟨C, hC⟩ := tys_at (cy := cy) ht h14
  refine va_aldq hx hb hG.2.1 hP k (t - 10) (wS_ref hk ht) hC hin hd ?_
  have e1 : va_rf (tw_vr ρ (tw_lift τ k i.toNatClampNeg)) = .ref (ρ r) := by simp [tw_lift, hr, tw_vr, va_rf]
  rw [e1]
  exact kk H locs la hP hS hL
theorem rw_alen (F : tw_F K M d Q) {k t : Nat} {v : Int32} (hd : decode M.2.1 pc = .ok (.arraylength, 1)) (hk : tw_isK k t = true) (ht : 10 ≤ t) (hv : Int32.ofNat (tw_sh k).2 = v) (kk : tw_R K (pc + 1) ls (.int v :: st) τ) : tw_R K pc ls (.ref k :: st) τ := by
  obtain ⟨⟨p, e, R, s, m, args⟩, ⟨below, meth, c⟩, ⟨cells, slots, Z⟩, ⟨l, D, cy, ρ⟩⟩ := K
  obtain ⟨⟨hx, hb, hml, hown, hts, hG, hR1, hR2, hR3, hR4⟩, hRt⟩ := F
  intro H locs la hP hS hL
  by_cases h10 : t = 10
  · subst h10
    exact va_alen hx hb hG.2.1 hP k 0 (wS_int hk) (ty := .int) rfl hv hd (kk H locs la hP hS hL)
  · have h14 := sh_small k (isK_of hk).1
    rw [(isK_of hk).2] at h14
    obtain ⟨C, hC⟩ := tys_at (cy := cy) (t := t) (by omega) h14
    exact va_alen hx hb hG.2.1 hP k (t - 10) (wS_ref hk (by omega)) hC hv hd (kk H locs la hP hS hL)
theorem st_room {ρ : Nat → Nat} {st : List Value} {n : Nat} (h : (st.map fun v => v.category).sum ≤ n) : ((st.map (tw_tr ρ)).map fun v => v.category).sum ≤ n := by
  have e : ((st.map (tw_tr ρ)).map fun v => v.category) = st.map fun v => v.category := by
    rw [List.map_map]
    exact List.map_congr_left (fun v _ => tr_cat ρ v)
  rw [e]
  exact h
theorem rw_min (F : tw_F K M d Q) {index : Nat} {x y : Int32} (hd : decode M.2.1 pc = .ok (.invokestatic index, 3)) (hw : Cond.methodLink M.1.cls index Lib.Math.min.name ∈ tw_gT) (h1 : 1 ≤ d) (hr : (st.map fun v => v.category).sum ≤ 8) (hs : Cond.static Lib.Math.min.name ∈ tw_gT) (hi : Cond.initialized "java/lang/Math" ∈ tw_gT) (hc : Cond.code Lib.Math.min.name Lib.Math.min.code 2 (some .int) ∈ tw_gT) (kk : tw_R K (pc + 3) ls (.int (if y < x then y else x) :: st) τ) : tw_R K pc ls (.int y :: .int x :: st) τ := by
  obtain ⟨⟨p, e, R, s, m, args⟩, ⟨below, meth, c⟩, ⟨cells, slots, Z⟩, ⟨l, D, cy, ρ⟩⟩ := K
  obtain ⟨⟨hx, hb, hml, hown, hts, hG, hR1, hR2, hR3, hR4⟩, hRt⟩ := F
  intro H locs la hP hS hL
  have h8 := st_room (ρ := ρ) hr
  exact va_mmin hx hb hL.1.symm hown (hts _ hw) (hts _ hs) (hts _ hi) (hts _ hc) (by omega) (by omega) hR3 hR4 hd (kk H locs la hP hS hL)
theorem rw_max (F : tw_F K M d Q) {index : Nat} {x y : Int32} (hd : decode M.2.1 pc = .ok (.invokestatic index, 3)) (hw : Cond.methodLink M.1.cls index Lib.Math.max.name ∈ tw_gT) (h1 : 1 ≤ d) (hr : (st.map fun v => v.category).sum ≤ 8) (hs : Cond.static Lib.Math.max.name ∈ tw_gT) (hi : Cond.initialized "java/lang/Math" ∈ tw_gT) (hc : Cond.code Lib.Math.max.name Lib.Math.max.code 2 (some .int) ∈ tw_gT) (kk : tw_R K (pc + 3) ls (.int (if x < y then y else x) :: st) τ) : tw_R K pc ls (.int y :: .int x :: st) τ := by
  obtain ⟨⟨p, e, R, s, m, args⟩, ⟨below, meth, c⟩, ⟨cells, slots, Z⟩, ⟨l, D, cy, ρ⟩⟩ := K
  obtain ⟨⟨hx, hb, hml, hown, hts, hG, hR1, hR2, hR3, hR4⟩, hRt⟩ := F
  intro H locs la hP hS hL
  have h8 := st_room (ρ := ρ) hr
  exact va_mmax hx hb hL.1.symm hown (hts _ hw) (hts _ hs) (hts _ hi) (hts _ hc) (by omega) (by omega) hR3 hR4 hd (kk H locs la hP hS hL)
theorem rw_copy (F : tw_F K M d Q) {index k0 k1 : Nat} {sp dp n : Int32} (hd : decode M.2.1 pc = .ok (.invokestatic index, 3)) (hw : Cond.methodLink M.1.cls index arraycopyName ∈ tw_gT) (h1 : 1 ≤ d) (hr : (st.map fun v => v.category).sum ≤ 8) (hn : Cond.native arraycopyName ∈ tw_gT) (hs : Cond.static arraycopyName ∈ tw_gT) (hi : Cond.initialized "java/lang/System" ∈ tw_gT)
    (hk0 : tw_isK k0 10 = true) (hk1 : tw_isK k1 10 = true) (a1 : ¬ sp < 0) (a2 : ¬ dp < 0) (a3 : ¬ n < 0) (a4 : sp.toNatClampNeg + n.toNatClampNeg ≤ (tw_sh k0).2) (a5 : dp.toNatClampNeg + n.toNatClampNeg ≤ (tw_sh k1).2)
    (kk : tw_R K (pc + 3) ls st (tw_sr τ k1 (va_cpy (τ k0) (τ k1) sp.toNatClampNeg dp.toNatClampNeg n.toNatClampNeg))) : tw_R K pc ls (.int n :: .int dp :: .ref k1 :: .int sp :: .ref k0 :: st) τ := by
  obtain ⟨⟨p, e, R, s, m, args⟩, ⟨below, meth, c⟩, ⟨cells, slots, Z⟩, ⟨l, D, cy, ρ⟩⟩ := K
  obtain ⟨⟨hx, hb, hml, hown, hts, hG, hR1, hR2, hR3, hR4⟩, hRt⟩ := F
  intro H locs la hP hS hL
  have h8 := st_room (ρ := ρ) hr
  have h9 : nativeFrameWords "java/lang/System" "arraycopy" 5 + 11 ≤ 56 := by decide
  refine va_copyi hx hb hL.1.symm hown (hts _ hw) (hts _ hn) (hts _ hs) (hts _ hi) hG.2.1 hP (wS_D hG.1) hS k0 k1 0 0 (ty := .int) (wS_int hk0) (wS_int hk1) rfl rfl rfl a1 a2 a3 a4 a5 (fun _ _ => rfl) (by omega) (by omega) hd (fun H1 locs1 hP1 _ hS1 => ?_)
  rw [wS_row hk1] at hP1
  exact kk H1 locs1 la hP1 hS1 hL
/-- the static row of the kinds above -/
theorem rw_getU (F : tw_F K M d Q) {index : Nat} (hd : decode M.2.1 pc = .ok (.getstatic index, 3)) (hw : Cond.fieldLink M.1.cls index "TwinLights" "UPPER_KIND" "[I" ∈ tw_gT) (kk : tw_R K (pc + 3) ls (.ref 258 :: st) τ) : tw_R K pc ls st τ := by
  obtain ⟨⟨p, e, R, s, m, args⟩, ⟨below, meth, c⟩, ⟨cells, slots, Z⟩, ⟨l, D, cy, ρ⟩⟩ := K
  obtain ⟨⟨hx, hb, hml, hown, hts, hG, hR1, hR2, hR3, hR4⟩, hRt⟩ := F
  intro H locs la hP hS hL
  exact va_gets hx hb hG.2.2.2.2.2.2.2.1 hS hown (hts _ hw) (fun _ h => h) hd (kk H locs la hP hS hL)
theorem rw_upk (F : tw_F K M d Q) {i : Int32} (hd : decode M.2.1 pc = .ok (.iaload, 1)) (hin : vp_in i 7) (kk : tw_R K (pc + 1) ls (.int (tw_up.getD i.toNatClampNeg 0) :: st) τ) : tw_R K pc ls (.int i :: .ref 258 :: st) τ := by
  obtain ⟨⟨p, e, R, s, m, args⟩, ⟨below, meth, c⟩, ⟨cells, slots, Z⟩, ⟨l, D, cy, ρ⟩⟩ := K
  obtain ⟨⟨hx, hb, hml, hown, hts, hG, hR1, hR2, hR3, hR4⟩, hRt⟩ := F
  intro H locs la hP hS hL
  exact va_ti hx hb hG.2.2.2.2.2.2.2.2 hS hin rfl hd (kk H locs la hP hS hL)
/-- the JDK's own: strings -/
theorem rw_compact (F : tw_F K M d Q) {index : Nat} (hd : decode M.2.1 pc = .ok (.getstatic index, 3)) (hw : Cond.fieldLink M.1.cls index "java/lang/String" "COMPACT_STRINGS" "Z" ∈ tw_gT) (kk : tw_R K (pc + 3) ls (.int 1 :: st) τ) : tw_R K pc ls st τ := by
  obtain ⟨⟨p, e, R, s, m, args⟩, ⟨below, meth, c⟩, ⟨cells, slots, Z⟩, ⟨l, D, cy, ρ⟩⟩ := K
  obtain ⟨⟨hx, hb, hml, hown, hts, hG, hR1, hR2, hR3, hR4⟩, hRt⟩ := F
  intro H locs la hP hS hL
  exact va_gets hx hb hG.2.2.2.2.2.1 hS hown (hts _ hw) (fun _ h => h) hd (kk H locs la hP hS hL)
theorem rw_sioobe (F : tw_F K M d Q) {index : Nat} (hd : decode M.2.1 pc = .ok (.getstatic index, 3)) (hw : Cond.fieldLink M.1.cls index "jdk/internal/util/Preconditions" "SIOOBE_FORMATTER" "Ljava/util/function/BiFunction;" ∈ tw_gT) (kk : ∀ v : Value, v = .null ∨ v = .ref 259 → tw_R K (pc + 3) ls (v :: st) τ) : tw_R K pc ls st τ := by
  obtain ⟨⟨p, e, R, s, m, args⟩, ⟨below, meth, c⟩, ⟨cells, slots, Z⟩, ⟨l, D, cy, ρ⟩⟩ := K
  obtain ⟨⟨hx, hb, hml, hown, hts, hG, hR1, hR2, hR3, hR4⟩, hRt⟩ := F
  intro H locs la hP hS hL
  rcases hG.2.2.2.2.2.2.1 with hz | hz
  · exact va_gets hx hb hz hS hown (hts _ hw) (fun _ h => h) hd (kk .null (Or.inl rfl) H locs la hP hS hL)
  · exact va_gets hx hb hz hS hown (hts _ hw) (fun _ h => h) hd (kk (.ref 259) (Or.inr rfl) H locs la hP hS hL)
theorem rw_sval (F : tw_F K M d Q) {index i : Nat} (hd : decode M.2.1 pc = .ok (.getfield index, 3)) (hi : i < 28) (hw : Cond.fieldLink M.1.cls index "java/lang/String" "value" "[B" ∈ tw_gT) (kk : tw_R K (pc + 3) ls (.ref (230 + i) :: st) τ) : tw_R K pc ls (.ref (202 + i) :: st) τ := by
  obtain ⟨⟨p, e, R, s, m, args⟩, ⟨below, meth, c⟩, ⟨cells, slots, Z⟩, ⟨l, D, cy, ρ⟩⟩ := K
  obtain ⟨⟨hx, hb, hml, hown, hts, hG, hR1, hR2, hR3, hR4⟩, hRt⟩ := F
  intro H locs la hP hS hL
  exact vk_getf hx hb (hG.2.2.2.2.1 i hi).2.2.1 hS hown (hts _ hw) (fun _ h => h) hd (kk H locs la hP hS hL)
theorem rw_scoder (F : tw_F K M d Q) {index i : Nat} (hd : decode M.2.1 pc = .ok (.getfield index, 3)) (hi : i < 28) (hw : Cond.fieldLink M.1.cls index "java/lang/String" "coder" "B" ∈ tw_gT) (kk : tw_R K (pc + 3) ls (.int 0 :: st) τ) : tw_R K pc ls (.ref (202 + i) :: st) τ := by
  obtain ⟨⟨p, e, R, s, m, args⟩, ⟨below, meth, c⟩, ⟨cells, slots, Z⟩, ⟨l, D, cy, ρ⟩⟩ := K
  obtain ⟨⟨hx, hb, hml, hown, hts, hG, hR1, hR2, hR3, hR4⟩, hRt⟩ := F
  intro H locs la hP hS hL
  exact vk_getf hx hb (hG.2.2.2.2.1 i hi).2.1 hS hown (hts _ hw) (fun _ h => h) hd (kk H locs la hP hS hL)
theorem rw_blen (F : tw_F K M d Q) {i : Nat} (hd : decode M.2.1 pc = .ok (.arraylength, 1)) (hi : i < 28) (kk : tw_R K (pc + 1) ls (.int (nI (tw_byt.getD i []).length) :: st) τ) : tw_R K pc ls (.ref (230 + i) :: st) τ := by
  obtain ⟨⟨p, e, R, s, m, args⟩, ⟨below, meth, c⟩, ⟨cells, slots, Z⟩, ⟨l, D, cy, ρ⟩⟩ := K
  obtain ⟨⟨hx, hb, hml, hown, hts, hG, hR1, hR2, hR3, hR4⟩, hRt⟩ := F
  intro H locs la hP hS hL
  exact va_tlen hx hb (hG.2.2.2.2.1 i hi).2.2.2 hS rfl hd (kk H locs la hP hS hL)
theorem rw_bald (F : tw_F K M d Q) {i : Nat} {j : Int32} (hd : decode M.2.1 pc = .ok (.baload, 1)) (hi : i < 28) (hin : vp_in j (tw_byt.getD i []).length) (kk : tw_R K (pc + 1) ls (.int ((tw_byt.getD i []).getD j.toNatClampNeg 0) :: st) τ) : tw_R K pc ls (.int j :: .ref (230 + i) :: st) τ := by
  obtain ⟨⟨p, e, R, s, m, args⟩, ⟨below, meth, c⟩, ⟨cells, slots, Z⟩, ⟨l, D, cy, ρ⟩⟩ := K
  obtain ⟨⟨hx, hb, hml, hown, hts, hG, hR1, hR2, hR3, hR4⟩, hRt⟩ := F
  intro H locs la hP hS hL
  exact va_tb hx hb (hG.2.2.2.2.1 i hi).2.2.2 hS hin rfl hd (kk H locs la hP hS hL)
end ROWS3
/-! ===== calls ===== -/
def tw_mC (M : Mt) (n : Nat) : Prop := Cond.code M.1 M.2.1 M.2.2.1 M.2.2.2 ∈ tw_gT ∧ Cond.initialized M.1.cls ∈ tw_gT ∧ (M.1.cls ≠ "java/lang/invoke/MethodHandle" ∧ M.1.cls ≠ "java/lang/invoke/VarHandle" ∧ (parseMethodDescriptor M.1.desc).map (fun d => d.parameters.length) = some n) ∧ M.2.2.1 ≤ 40
def tw_mV (M : Mt) (n : Nat) : Prop := tw_mC M n ∧ Cond.instanceMethod M.1 ∈ tw_gT ∧ Cond.selects M.1.cls M.1 M.1 ∈ tw_gT
def tw_mS (M : Mt) (n : Nat) : Prop := tw_mC M n ∧ Cond.static M.1 ∈ tw_gT
theorem gT_good {M : Mt} (h : Cond.code M.1 M.2.1 M.2.2.1 M.2.2.2 ∈ tw_gT) : GoodIn tw_gT (Cond.code M.1 M.2.1 M.2.2.1 M.2.2.2 :: tw_gT) := by
  intro w hw
  have hw' : w ∈ tw_gT := (List.mem_cons.mp hw).elim (fun e => e ▸ h) id
  exact ⟨hw', good_of_word (List.mem_filter.mp hw').2⟩
/-- the receiver's cell is an object of that class -/
def tw_rc (k : Nat) (C : String) : Prop := ∃ (ci : Nat) (q : vw_C), tw_isK k ci = true ∧ vwCl[ci]? = some q ∧ q.1 = C
section CALLS
variable {p : Program} {l : Launch} {e : Env} {R : Room} {s : State} {m : MethodId} {args : Array Value} {below : List Frame} {meth : Method} {c : Code} {cells slots : Nat} {Z : State → Prop} {D : va_G} {cy : Nat → ClassId} {ρ : Nat → Nat} {pc : Nat} {ls st stk : List Value} {τ : tw_T}
theorem call_end {H : Heap} {locs : List Loc} {la : Array Slot} {Q' : Option Value → tw_T → Prop} {a : Array Value} (hS : va_S (tw_A ρ s.heap.size) s.heap H locs) (hL : tw_Lv la c.maxLocals (ls.map (tw_tr ρ)))
    (hr : va_Run p l e R s m args below meth c H locs cells slots 0 0 (F0 m pc la (stk.map (tw_tr ρ))) (st.map (tw_tr ρ)) (tw_Qc (l, D, cy, ρ) H.size Q' a) (tw_A ρ H.size))
    (cont : ∀ (v : Option Value) (τ' : tw_T), Q' v τ' → tw_R ((p, e, R, s, m, args), (below, meth, c), (cells, slots, Z), (l, D, cy, ρ)) (pc + 3) ls (v.toList ++ st) τ') : W p l e R s m args below meth c H locs cells slots Z (F0 m pc la (stk.map (tw_tr ρ))) := by
  intro T hT X
  obtain ⟨v, st₀, t, T', L, h0, X', hL', e1, e2, ⟨⟨v', τ', hv, hq, hP'⟩, hz, hk⟩, stp⟩ := hr T hT X
  cases hv
  rw [h0] at hz hk
  have hin : ∀ q, tw_A ρ H.size q → tw_A ρ s.heap.size q := fun q hq => hq.elim Or.inl (fun h => Or.inr (Nat.le_trans hS.1 h))
  obtain ⟨t2, a1, b1⟩ := cont v' τ' hq T'.heap (locs ++ L) la (by rw [e1]; exact hP')
    ⟨Nat.le_trans hS.1 (by rw [e1]; exact hz), fun q h1 h2 => by rw [e1, hk q (Nat.lt_of_lt_of_le h1 hS.1) (fun z => h2 (hin q z))]; exact hS.2.1 q h1 h2, fun q hq => by
      rcases List.mem_append.mp hq with h | h
      · exact hS.2.2 q h
      · exact hin _ (hL' q h)⟩ hL T' rfl X'
  refine ⟨t2, stp t2 ?_, b1⟩
  have e3 : (v'.map (tw_tr ρ)).toList ++ st.map (tw_tr ρ) = (v'.toList ++ st).map (tw_tr ρ) := by cases v' <;> rfl
  show Steps _ _ _ (T'.setTop (F0 m (pc + 3) la ((v'.map (tw_tr ρ)).toList ++ st.map (tw_tr ρ)))) t2
  rw [e3]
  exact a1
end CALLS
section CALLS2
variable {K : tw_K} {M : Mt} {d : Nat} {Q : Option Value → tw_T → Prop} {pc : Nat} {ls st stk : List Value} {τ : tw_T}
theorem rw_cV (F : tw_F K M d Q) {M' : Mt} {d' index k n : Nat} {As : List Value} {Q' : Option Value → tw_T → Prop} (hd : decode M.2.1 pc = .ok (.invokevirtual index, 3)) (hm : tw_mV M' n) (hw : Cond.methodLink M.1.cls index M'.1 ∈ tw_gT) (hdd : d' < d) (hrc : tw_rc k M'.1.cls) (hn : As.length = n) (hst : stk = As.reverse ++ .ref k :: st) (hr : (st.map fun v => v.category).sum ≤ 8)
    (hC : tw_Ct K.2.2.2 d' M' (.ref k :: As) τ Q') (cont : ∀ (v : Option Value) (τ' : tw_T), Q' v τ' → tw_R K (pc + 3) ls (v.toList ++ st) τ') : tw_R K pc ls stk τ := by
  obtain ⟨⟨p, e, R, s, m, args⟩, ⟨below, meth, c⟩, ⟨cells, slots, Z⟩, ⟨l, D, cy, ρ⟩⟩ := K
  obtain ⟨⟨hx, hb, hml, hown, hts, hG, hR1, hR2, hR3, hR4⟩, hRt⟩ := F
  intro H locs la hP hS hL
  subst hst
  obtain ⟨⟨hm1, hm2, hm3, hm4⟩, hm5, hm6⟩ := hm
  obtain ⟨ci, q, hk, hq, hqc⟩ := hrc
  have h8 := st_room (ρ := ρ) hr
  refine call_end (Q' := Q') (a := (Value.ref (ρ k) :: As.map (tw_tr ρ)).toArray) hS hL ?_ cont
  refine va_runV (As := As.map (tw_tr ρ)) (rest := st.map (tw_tr ρ)) (b := ρ k) (C := M'.1.cls) ⟨hx, hb, hml, hown, hts⟩ (hC H.size) (cwV n hts (fun w hw' => ?_) rfl rfl rfl ⟨rfl, hm3⟩ ⟨?_, ?_⟩) ⟨fun a U g mk q => ⟨q.1, q.2.1, q.2.2.1, G_blind q.2.2.2⟩, ?_, fun U hU hW => ⟨rfl, by rw [hU], by rw [hU]; exact hP, G_step hG hS hU hW⟩⟩ rfl (by simpa using hn) (hL.1.trans hml) ?_ (lv_room h8) hd ⟨hR3, hR4⟩
  · unfold wsV at hw'
    rcases List.mem_append.mp hw' with h | h
    · have hin : w ∈ tw_gT := by
        simp only [List.mem_cons, List.not_mem_nil, or_false] at h
        rcases h with rfl | rfl | rfl | rfl
        · exact hw
        · exact hm5
        · exact hm6
        · exact hm2
      exact ⟨hin, good_of_word (List.mem_filter.mp hin).2⟩
    · exact gT_good hm1 w h
  · show d' + 1 ≤ R.frames
    omega
  · show 8 + (M'.2.2.1 + 11) + 64 * d' ≤ R.locals
    omega
  · obtain ⟨cell, h1, h2, h3⟩ := va_recv hG.2.1 hP hq (wS_obj hk hq)
    exact ⟨cell, h1, h2, by rw [← hqc]; exact h3⟩
  · show (As.reverse ++ Value.ref k :: st).map (tw_tr ρ) = _
    rw [List.map_append, List.map_reverse]
    rfl
theorem rw_cVs (F : tw_F K M d Q) {M' : Mt} {d' index i n : Nat} {As : List Value} {Q' : Option Value → tw_T → Prop} (hd : decode M.2.1 pc = .ok (.invokevirtual index, 3)) (hm : tw_mV M' n) (hw : Cond.methodLink M.1.cls index M'.1 ∈ tw_gT) (hdd : d' < d) (hi : i < 28) (hcl : M'.1.cls = "java/lang/String") (hn : As.length = n) (hst : stk = As.reverse ++ .ref (202 + i) :: st) (hr : (st.map fun v => v.category).sum ≤ 8)
    (hC : tw_Ct K.2.2.2 d' M' (.ref (202 + i) :: As) τ Q') (cont : ∀ (v : Option Value) (τ' : tw_T), Q' v τ' → tw_R K (pc + 3) ls (v.toList ++ st) τ') : tw_R K pc ls stk τ := by
  obtain ⟨⟨p, e, R, s, m, args⟩, ⟨below, meth, c⟩, ⟨cells, slots, Z⟩, ⟨l, D, cy, ρ⟩⟩ := K
  obtain ⟨⟨hx, hb, hml, hown, hts, hG, hR1, hR2, hR3, hR4⟩, hRt⟩ := F
  intro H locs la hP hS hL
  subst hst
  obtain ⟨⟨hm1, hm2, hm3, hm4⟩, hm5, hm6⟩ := hm
  have h8 := st_room (ρ := ρ) hr
  refine call_end (Q' := Q') (a := (Value.ref (ρ (202 + i)) :: As.map (tw_tr ρ)).toArray) hS hL ?_ cont
  refine va_runV (As := As.map (tw_tr ρ)) (rest := st.map (tw_tr ρ)) (b := ρ (202 + i)) (C := M'.1.cls) ⟨hx, hb, hml, hown, hts⟩ (hC H.size) (cwV n hts (fun w hw' => ?_) rfl rfl rfl ⟨rfl, hm3⟩ ⟨?_, ?_⟩) ⟨fun a U g mk q => ⟨q.1, q.2.1, q.2.2.1, G_blind q.2.2.2⟩, ?_, fun U hU hW => ⟨rfl, by rw [hU], by rw [hU]; exact hP, G_step hG hS hU hW⟩⟩ rfl (by simpa using hn) (hL.1.trans hml) ?_ (lv_room h8) hd ⟨hR3, hR4⟩
  · unfold wsV at hw'
    rcases List.mem_append.mp hw' with h | h
    · have hin : w ∈ tw_gT := by
        simp only [List.mem_cons, List.not_mem_nil, or_false] at h
        rcases h with rfl | rfl | rfl | rfl
        · exact hw
        · exact hm5
        · exact hm6
        · exact hm2
      exact ⟨hin, good_of_word (List.mem_filter.mp hin).2⟩
    · exact gT_good hm1 w h
  · show d' + 1 ≤ R.frames
    omega
  · show 8 + (M'.2.2.1 + 11) + 64 * d' ≤ R.locals
    omega
  · obtain ⟨cell, h1, h2, h3, -⟩ := (hG.2.2.2.2.1 i hi).1.kept hS.2.1
    exact ⟨cell, h1, h2, by rw [hcl]; exact h3⟩
  · show (As.reverse ++ Value.ref (202 + i) :: st).map (tw_tr ρ) = _
    rw [List.map_append, List.map_reverse]
    rfl
theorem rw_cS (F : tw_F K M d Q) {M' : Mt} {d' index n : Nat} {As : List Value} {Q' : Option Value → tw_T → Prop} (hd : decode M.2.1 pc = .ok (.invokestatic index, 3)) (hm : tw_mS M' n) (hw : Cond.methodLink M.1.cls index M'.1 ∈ tw_gT) (hdd : d' < d) (hn : As.length = n) (hst : stk = As.reverse ++ st) (hr : (st.map fun v => v.category).sum ≤ 8)
    (hC : tw_Ct K.2.2.2 d' M' As τ Q') (cont : ∀ (v : Option Value) (τ' : tw_T), Q' v τ' → tw_R K (pc + 3) ls (v.toList ++ st) τ') : tw_R K pc ls stk τ := by
  obtain ⟨⟨p, e, R, s, m, args⟩, ⟨below, meth, c⟩, ⟨cells, slots, Z⟩, ⟨l, D, cy, ρ⟩⟩ := K
  obtain ⟨⟨hx, hb, hml, hown, hts, hG, hR1, hR2, hR3, hR4⟩, hRt⟩ := F
  intro H locs la hP hS hL
  subst hst
  obtain ⟨⟨hm1, hm2, hm3, hm4⟩, hm5⟩ := hm
  have h8 := st_room (ρ := ρ) hr
  refine call_end (Q' := Q') (a := (As.map (tw_tr ρ)).toArray) hS hL ?_ cont
  refine va_runS (As := As.map (tw_tr ρ)) (rest := st.map (tw_tr ρ)) ⟨hx, hb, hml, hown, hts⟩ (hC H.size) (va_cwS n hts (fun w hw' => ?_) rfl rfl rfl hm3 ⟨?_, ?_⟩) ⟨fun a U g mk q => ⟨q.1, q.2.1, q.2.2.1, G_blind q.2.2.2⟩, fun U hU hW => ⟨rfl, by rw [hU], by rw [hU]; exact hP, G_step hG hS hU hW⟩⟩ rfl (by simpa using hn) (hL.1.trans hml) ?_ (lv_room h8) hd ⟨hR3, hR4⟩
  · unfold va_wsS at hw'
    rcases List.mem_append.mp hw' with h | h
    · have hin : w ∈ tw_gT := by
        simp only [List.mem_cons, List.not_mem_nil, or_false] at h
        rcases h with rfl | rfl | rfl
        · exact hw
        · exact hm5
        · exact hm2
      exact ⟨hin, good_of_word (List.mem_filter.mp hin).2⟩
    · exact gT_good hm1 w h
  · show d' + 1 ≤ R.frames
    omega
  · show 8 + (M'.2.2.1 + 11) + 64 * d' ≤ R.locals
    omega
  · show (As.reverse ++ st).map (tw_tr ρ) = _
    rw [List.map_append, List.map_reverse]
theorem rw_cSN (F : tw_F K M d Q) {M' : Mt} {d' index n : Nat} {As : List Value} {Q' : Option Value → tw_T → Prop} (hd : decode M.2.1 pc = .ok (.invokestatic index, 3)) (hm : tw_mS M' n) (hw : (M.1.cls, index, M'.1) ∈ tw_nest) (hdd : d' < d) (hn : As.length = n) (hst : stk = As.reverse ++ st) (hr : (st.map fun v => v.category).sum ≤ 8)
    (hC : tw_Ct K.2.2.2 d' M' As τ Q') (cont : ∀ (v : Option Value) (τ' : tw_T), Q' v τ' → tw_R K (pc + 3) ls (v.toList ++ st) τ') : tw_R K pc ls stk τ := by
  obtain ⟨⟨p, e, R, s, m, args⟩, ⟨below, meth, c⟩, ⟨cells, slots, Z⟩, ⟨l, D, cy, ρ⟩⟩ := K
  obtain ⟨⟨hx, hb, hml, hown, hts, hG, hR1, hR2, hR3, hR4⟩, hRt⟩ := F
  intro H locs la hP hS hL
  subst hst
  obtain ⟨⟨hm1, hm2, hm3, hm4⟩, hm5⟩ := hm
  have h8 := st_room (ρ := ρ) hr
  refine call_end (Q' := Q') (a := (As.map (tw_tr ρ)).toArray) hS hL ?_ cont
  refine va_runSN (As := As.map (tw_tr ρ)) (rest := st.map (tw_tr ρ)) ⟨hx, hb, hml, hown, hts⟩ (hC H.size) ⟨va_cnB n hts (gT_good hm1) rfl rfl rfl (hG.2.2.1 _ hw) (hts _ hm2) hm3 ⟨?_, ?_⟩, hts _ hm5, trivial⟩ ⟨fun a U g mk q => ⟨q.1, q.2.1, q.2.2.1, G_blind q.2.2.2⟩, fun U hU hW => ⟨rfl, by rw [hU], by rw [hU]; exact hP, G_step hG hS hU hW⟩⟩ rfl (by simpa using hn) (hL.1.trans hml) ?_ (lv_room h8) hd ⟨hR3, hR4⟩
  · show d' + 1 ≤ R.frames
    omega
  · show 8 + (M'.2.2.1 + 11) + 64 * d' ≤ R.locals
    omega
  · show (As.reverse ++ st).map (tw_tr ρ) = _
    rw [List.map_append, List.map_reverse]
end CALLS2
