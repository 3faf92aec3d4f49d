/-! ===== the bases of fleets, seas, sheets ===== -/
def tw_fbL : List Nat := [3, 16, 33, 52, 62, 72, 82, 92, 102, 112, 122, 132, 142, 152, 162, 172]
def tw_fb (f : Nat) : Prop := f ∈ tw_fbL
def tw_sb (b : Nat) : Prop := b ∈ ([1, 14, 31] : List Nat)
def tw_tb (t : Nat) : Prop := t ∈ ([182, 184, 186, 188] : List Nat)
theorem fb_all : ∀ f ∈ tw_fbL, tw_isK f 1 = true ∧ tw_lk f 0 = f + 1 + 1 ∧ tw_lk f 1 = 0 ∧ tw_isK (f + 1) 11 = true ∧ (tw_sh (f + 1)).2 = 8 ∧ ∀ i, i < 8 → tw_lk (f + 1) i = f + 2 + i + 1 ∧ tw_isK (f + 2 + i) 6 = true := by decide +kernel
theorem fb_k {f : Nat} (h : tw_fb f) : tw_isK f 1 = true := (fb_all f h).1
theorem fb_l0 {f : Nat} (h : tw_fb f) : tw_lk f 0 = f + 1 + 1 := (fb_all f h).2.1
theorem fb_l1 {f : Nat} (h : tw_fb f) : tw_lk f 1 = 0 := (fb_all f h).2.2.1
theorem fb_a {f : Nat} (h : tw_fb f) : tw_isK (f + 1) 11 = true := (fb_all f h).2.2.2.1
theorem fb_ship {f i : Nat} (h : tw_fb f) (hi : i < 8) : tw_isK (f + 2 + i) 6 = true := ((fb_all f h).2.2.2.2.2 i hi).2
theorem vp_lt {i : Int32} {n : Nat} (h : vp_in i n) : i.toNatClampNeg < n := Nat.not_le.mp fun q => h (Or.inr q)
theorem fb_shipI {f : Nat} {i : Int32} (h : tw_fb f) (hi : vp_in i 8) : tw_isK (f + 2 + i.toNatClampNeg) 6 = true := fb_ship h (vp_lt hi)
theorem sb_all : ∀ b ∈ ([1, 14, 31] : List Nat), tw_isK b 4 = true ∧ tw_lk b 0 = b + 1 + 1 ∧ tw_lk b 1 = b + 2 + 1 ∧ tw_lk b 2 = b + 12 + 1 ∧ tw_lk b 3 = 0 ∧ tw_isK (b + 1) 2 = true ∧ b + 2 ∈ tw_fbL ∧ tw_isK (b + 12) 10 = true ∧ (tw_sh (b + 12)).2 = 10 := by decide +kernel
theorem sb_k {b : Nat} (h : tw_sb b) : tw_isK b 4 = true := (sb_all b h).1
theorem sb_l0 {b : Nat} (h : tw_sb b) : tw_lk b 0 = b + 1 + 1 := (sb_all b h).2.1
theorem sb_l1 {b : Nat} (h : tw_sb b) : tw_lk b 1 = b + 2 + 1 := (sb_all b h).2.2.1
theorem sb_l2 {b : Nat} (h : tw_sb b) : tw_lk b 2 = b + 12 + 1 := (sb_all b h).2.2.2.1
theorem sb_l3 {b : Nat} (h : tw_sb b) : tw_lk b 3 = 0 := (sb_all b h).2.2.2.2.1
theorem sb_li {b : Nat} (h : tw_sb b) : tw_isK (b + 1) 2 = true := (sb_all b h).2.2.2.2.2.1
theorem sb_f {b : Nat} (h : tw_sb b) : tw_fb (b + 2) := (sb_all b h).2.2.2.2.2.2.1
theorem sb_s {b : Nat} (h : tw_sb b) : tw_isK (b + 12) 10 = true := (sb_all b h).2.2.2.2.2.2.2.1
theorem sb_sn {b : Nat} (h : tw_sb b) : (tw_sh (b + 12)).2 = 10 := (sb_all b h).2.2.2.2.2.2.2.2
theorem tb_all : ∀ t ∈ ([182, 184, 186, 188] : List Nat), tw_isK t 5 = true ∧ tw_lk t 0 = t + 1 + 1 ∧ tw_lk t 1 = 0 ∧ tw_lk t 2 = 0 ∧ tw_isK (t + 1) 10 = true ∧ (tw_sh (t + 1)).2 = 40 := by decide +kernel
theorem tb_k {t : Nat} (h : tw_tb t) : tw_isK t 5 = true := (tb_all t h).1
theorem tb_l0 {t : Nat} (h : tw_tb t) : tw_lk t 0 = t + 1 + 1 := (tb_all t h).2.1
theorem tb_l1 {t : Nat} (h : tw_tb t) : tw_lk t 1 = 0 := (tb_all t h).2.2.1
theorem tb_l2 {t : Nat} (h : tw_tb t) : tw_lk t 2 = 0 := (tb_all t h).2.2.2.1
theorem tb_n {t : Nat} (h : tw_tb t) : tw_isK (t + 1) 10 = true := (tb_all t h).2.2.2.2.1
theorem tb_nn {t : Nat} (h : tw_tb t) : (tw_sh (t + 1)).2 = 40 := (tb_all t h).2.2.2.2.2
theorem sheet_all : ∀ i, i < 4 → tw_lk 29 i = 182 + 2 * i + 1 ∧ 182 + 2 * i ∈ ([182, 184, 186, 188] : List Nat) := by decide +kernel
theorem fleets_all : ∀ i, i < 13 → tw_lk 51 i = 52 + 10 * i + 1 ∧ 52 + 10 * i ∈ tw_fbL := by decide +kernel
theorem names_all : ∀ i, i < 7 → tw_lk 196 i = 202 + (14 + i) + 1 := by decide +kernel
theorem tb_of {i : Int32} (hi : vp_in i 4) : tw_tb (182 + 2 * i.toNatClampNeg) := (sheet_all _ (vp_lt hi)).2
theorem fb_of {i : Int32} (hi : vp_in i 13) : tw_fb (52 + 10 * i.toNatClampNeg) := (fleets_all _ (vp_lt hi)).2
section ROWS5
variable {K : tw_K} {M : Mt} {d : Nat} {Q : Option Value → tw_T → Prop} {pc : Nat} {ls st : List Value} {τ : tw_T}
theorem rw_aaShip (F : tw_F K M d Q) {f : Nat} {i : Int32} (hd : decode M.2.1 pc = .ok (.aaload, 1)) (hf : tw_fb f) (hin : vp_in i 8) (kk : tw_isK (f + 2 + i.toNatClampNeg) 6 = true → tw_R K (pc + 1) ls (.ref (f + 2 + i.toNatClampNeg) :: st) τ) : tw_R K pc ls (.int i :: .ref (f + 1) :: st) τ :=
  rw_aald F hd (fb_a hf) (by decide) (by rw [(fb_all f hf).2.2.2.2.1]; exact hin) ((fb_all f hf).2.2.2.2.2 _ (vp_lt hin)).1 (kk (fb_shipI hf hin))
theorem rw_aaSheet (F : tw_F K M d Q) {i : Int32} (hd : decode M.2.1 pc = .ok (.aaload, 1)) (hin : vp_in i 4) (kk : tw_tb (182 + 2 * i.toNatClampNeg) → tw_R K (pc + 1) ls (.ref (182 + 2 * i.toNatClampNeg) :: st) τ) : tw_R K pc ls (.int i :: .ref 29 :: st) τ :=
  rw_aald (t := 13) F hd rfl (by decide) hin (sheet_all _ (vp_lt hin)).1 (kk (tb_of hin))
theorem rw_aaFleet (F : tw_F K M d Q) {i : Int32} (hd : decode M.2.1 pc = .ok (.aaload, 1)) (hin : vp_in i 13) (kk : tw_fb (52 + 10 * i.toNatClampNeg) → tw_R K (pc + 1) ls (.ref (52 + 10 * i.toNatClampNeg) :: st) τ) : tw_R K pc ls (.int i :: .ref 51 :: st) τ :=
  rw_aald (t := 12) F hd rfl (by decide) hin (fleets_all _ (vp_lt hin)).1 (kk (fb_of hin))
theorem rw_aaName (F : tw_F K M d Q) {i : Int32} (hd : decode M.2.1 pc = .ok (.aaload, 1)) (hin : vp_in i 7) (kk : 14 + i.toNatClampNeg < 28 → tw_R K (pc + 1) ls (.ref (202 + (14 + i.toNatClampNeg)) :: st) τ) : tw_R K pc ls (.int i :: .ref 196 :: st) τ :=
  rw_aald (t := 14) F hd rfl (by decide) hin (names_all _ (vp_lt hin)) (kk (by have := vp_lt hin; omega))
/-- a place of a row by a number that was computed; n: the row's length -/
theorem rw_iaC (F : tw_F K M d Q) {k n : Nat} {i : Int32} (hd : decode M.2.1 pc = .ok (.iaload, 1)) (hk : tw_isK k 10 = true) (hn : (tw_sh k).2 = n) (hin : vp_in i n) (kk : tw_R K (pc + 1) ls (.int (τ k i.toNatClampNeg) :: st) τ) : tw_R K pc ls (.int i :: .ref k :: st) τ := rw_iald F hd hk (by rw [hn]; exact hin) kk
theorem rw_isC (F : tw_F K M d Q) {k n : Nat} {i v : Int32} (hd : decode M.2.1 pc = .ok (.iastore, 1)) (hk : tw_isK k 10 = true) (hn : (tw_sh k).2 = n) (hin : vp_in i n) (kk : tw_R K (pc + 1) ls st (tw_sr τ k (upd (τ k) i.toNatClampNeg v))) : tw_R K pc ls (.int v :: .int i :: .ref k :: st) τ := rw_iast F hd hk (by rw [hn]; exact hin) kk
end ROWS5
def tw_r73 (t : Nat) : Prop := t ∈ ([191, 192, 193] : List Nat)
theorem r73_all : ∀ t ∈ ([191, 192, 193] : List Nat), tw_isK t 10 = true ∧ (tw_sh t).2 = 73 := by decide +kernel
theorem r73_k {t : Nat} (h : tw_r73 t) : tw_isK t 10 = true := (r73_all t h).1
theorem r73_n {t : Nat} (h : tw_r73 t) : (tw_sh t).2 = 73 := (r73_all t h).2
/-- a local that nobody reads any more -/
theorem rw_nul {K : tw_K} {pc : Nat} {ls st : List Value} {τ : tw_T} (i : Nat) (k : tw_R K pc (ls.set i .null) st τ) : tw_R K pc ls st τ := by
  obtain ⟨⟨p, e, R, s, m, args⟩, ⟨below, meth, c⟩, ⟨cells, slots, Z⟩, ⟨l, D, cy, ρ⟩⟩ := K
  intro H locs la hP hS hL
  refine k H locs la hP hS ⟨hL.1, hL.2.1, fun j v hj hv => hL.2.2 j v ?_ hv⟩
  rw [List.map_set, List.getElem?_set] at hj
  by_cases h : i = j
  · subst h
    rw [if_pos rfl] at hj
    split at hj
    · cases hj; exact absurd rfl hv
    · cases hj
  · rw [if_neg h] at hj
    exact hj
theorem tw_ldcW {p : Program} {l : Launch} {e : Env} {R : Room} {s : State} {m : MethodId} {args : Array Value} {below : List Frame} {meth : Method} {c : Code} {H : Heap} {locs : List Loc} {cells slots : Nat} {Q : State → Prop} {cc : ByteArray} {pc : Nat} {ls : Array Slot} {rest : List Value}
    (hexec : p.tables.exec = Jvm.exec) (hb : c.code = cc) {own tx : String} {index q : Nat} (hown : s.vm.findClass own = some m.cls) (hZ : vk_R own index tx q s) (hdg : decode cc pc = .ok (.ldc_w index, 3))
    (kk : W p l e R s m args below meth c H locs cells slots Q (F0 m (pc + 3) ls (.ref q :: rest))) : W p l e R s m args below meth c H locs cells slots Q (F0 m pc ls rest) := by
  intro T hT X
  obtain ⟨t, a1, b1⟩ := kk T hT X
  obtain ⟨k, cf, i, a', hk, hcf, hcp, -, hr, hev'⟩ := Cond.stringRef_spec hown hZ.1
  cases hZ.2.symm.trans hev'
  obtain ⟨k', hk', he⟩ := X.warmed.alike.2.2 _ _ hk
  have hr' : k'.resolved[index]? = some (some (.string q)) := by
    rcases X.warmed.entry hk hk' index with h | ⟨h, -⟩
    · rw [h]; exact hr
    · rw [hr] at h; cases h
  refine ⟨t, ?_, b1⟩
  jvm_step X.here [hexec, hb, hdg, Op.ldc_w.wp_string (e := e) (s := T) (f := F0 m pc ls rest) X.here.top hk' (by rw [he]; exact hcf) hcp hr']
  exact a1
theorem rw_ldcwS {K : tw_K} {M : Mt} {d : Nat} {Q : Option Value → tw_T → Prop} {pc : Nat} {ls st : List Value} {τ : tw_T} (F : tw_F K M d Q) {index : Nat} {tx : String} (i : Nat) (hd : decode M.2.1 pc = .ok (.ldc_w index, 3)) (hs : tw_strs[i]? = some (M.1.cls, index, tx)) (k : tw_R K (pc + 3) ls (.ref (202 + i) :: st) τ) : tw_R K pc ls st τ := by
  obtain ⟨⟨p, e, R, s, m, args⟩, ⟨below, meth, c⟩, ⟨cells, slots, Z⟩, ⟨l, D, cy, ρ⟩⟩ := K
  obtain ⟨⟨hx, hb, hml, hown, hts, hG, hR1, hR2, hR3, hR4⟩, hRt⟩ := F
  intro H locs la hP hS hL
  exact tw_ldcW hx hb hown (hG.2.2.2.1 i _ hs) hd (k H locs la hP hS hL)
