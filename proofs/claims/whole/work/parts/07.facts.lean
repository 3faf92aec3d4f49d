/-! ===== exact contracts, and rows for their calls ===== -/
def tw_Ci (E : tw_E) (d : Nat) (M : Mt) (av : List Value) (τ : tw_T) (r : Int32) (τ' : tw_T) : Prop := tw_Ct E d M av τ (fun v t => v = some (.int r) ∧ t = τ')
def tw_Cv (E : tw_E) (d : Nat) (M : Mt) (av : List Value) (τ τ' : tw_T) : Prop := tw_Ct E d M av τ (fun v t => v = none ∧ t = τ')
def tw_Cl (E : tw_E) (d : Nat) (M : Mt) (av : List Value) (τ : tw_T) (r : Int64) (τ' : tw_T) : Prop := tw_Ct E d M av τ (fun v t => v = some (.long r) ∧ t = τ')
section CALLS3
variable {K : tw_K} {M : Mt} {d : Nat} {Q : Option Value → tw_T → Prop} {pc : Nat} {ls st stk : List Value} {τ τ' : tw_T}
set_option maxRecDepth 10000 in
theorem rw_cVi (F : tw_F K M d Q) {M' : Mt} {d' index n : Nat} {k : Nat} (As : List Value) {r : Int32} (hd : decode M.2.1 pc = .ok (.invokevirtual index, 3)) (hm : tw_mV M' n) (hw : Cond.methodLink M.1.cls index M'.1 ∈ tw_gT) (hdd : d' < d) (hrc : tw_rc k M'.1.cls) (hn : As.length = n) (hst : stk = As.reverse ++ .ref k :: st) (hr : (st.map fun v => v.category).sum ≤ 8) (hC : tw_Ci K.2.2.2 d' M' (.ref k :: As) τ r τ') (cont : tw_R K (pc + 3) ls (.int r :: st) τ') : tw_R K pc ls stk τ := rw_cV F hd hm hw hdd hrc hn hst hr hC (fun v t h => by obtain ⟨rfl, rfl⟩ := h; exact cont)
set_option maxRecDepth 10000 in
theorem rw_cVv (F : tw_F K M d Q) {M' : Mt} {d' index n : Nat} {k : Nat} (As : List Value)  (hd : decode M.2.1 pc = .ok (.invokevirtual index, 3)) (hm : tw_mV M' n) (hw : Cond.methodLink M.1.cls index M'.1 ∈ tw_gT) (hdd : d' < d) (hrc : tw_rc k M'.1.cls) (hn : As.length = n) (hst : stk = As.reverse ++ .ref k :: st) (hr : (st.map fun v => v.category).sum ≤ 8) (hC : tw_Cv K.2.2.2 d' M' (.ref k :: As) τ τ') (cont : tw_R K (pc + 3) ls (st) τ') : tw_R K pc ls stk τ := rw_cV F hd hm hw hdd hrc hn hst hr hC (fun v t h => by obtain ⟨rfl, rfl⟩ := h; exact cont)
set_option maxRecDepth 10000 in
theorem rw_cVl (F : tw_F K M d Q) {M' : Mt} {d' index n : Nat} {k : Nat} (As : List Value) {r : Int64} (hd : decode M.2.1 pc = .ok (.invokevirtual index, 3)) (hm : tw_mV M' n) (hw : Cond.methodLink M.1.cls index M'.1 ∈ tw_gT) (hdd : d' < d) (hrc : tw_rc k M'.1.cls) (hn : As.length = n) (hst : stk = As.reverse ++ .ref k :: st) (hr : (st.map fun v => v.category).sum ≤ 8) (hC : tw_Cl K.2.2.2 d' M' (.ref k :: As) τ r τ') (cont : tw_R K (pc + 3) ls (.long r :: st) τ') : tw_R K pc ls stk τ := rw_cV F hd hm hw hdd hrc hn hst hr hC (fun v t h => by obtain ⟨rfl, rfl⟩ := h; exact cont)
set_option maxRecDepth 10000 in
theorem rw_cSi (F : tw_F K M d Q) {M' : Mt} {d' index n : Nat}  (As : List Value) {r : Int32} (hd : decode M.2.1 pc = .ok (.invokestatic index, 3)) (hm : tw_mS M' n) (hw : Cond.methodLink M.1.cls index M'.1 ∈ tw_gT) (hdd : d' < d)  (hn : As.length = n) (hst : stk = As.reverse ++ st) (hr : (st.map fun v => v.category).sum ≤ 8) (hC : tw_Ci K.2.2.2 d' M' As τ r τ') (cont : tw_R K (pc + 3) ls (.int r :: st) τ') : tw_R K pc ls stk τ := rw_cS F hd hm hw hdd  hn hst hr hC (fun v t h => by obtain ⟨rfl, rfl⟩ := h; exact cont)
set_option maxRecDepth 10000 in
theorem rw_cSv (F : tw_F K M d Q) {M' : Mt} {d' index n : Nat}  (As : List Value)  (hd : decode M.2.1 pc = .ok (.invokestatic index, 3)) (hm : tw_mS M' n) (hw : Cond.methodLink M.1.cls index M'.1 ∈ tw_gT) (hdd : d' < d)  (hn : As.length = n) (hst : stk = As.reverse ++ st) (hr : (st.map fun v => v.category).sum ≤ 8) (hC : tw_Cv K.2.2.2 d' M' As τ τ') (cont : tw_R K (pc + 3) ls (st) τ') : tw_R K pc ls stk τ := rw_cS F hd hm hw hdd  hn hst hr hC (fun v t h => by obtain ⟨rfl, rfl⟩ := h; exact cont)
set_option maxRecDepth 10000 in
theorem rw_cSl (F : tw_F K M d Q) {M' : Mt} {d' index n : Nat}  (As : List Value) {r : Int64} (hd : decode M.2.1 pc = .ok (.invokestatic index, 3)) (hm : tw_mS M' n) (hw : Cond.methodLink M.1.cls index M'.1 ∈ tw_gT) (hdd : d' < d)  (hn : As.length = n) (hst : stk = As.reverse ++ st) (hr : (st.map fun v => v.category).sum ≤ 8) (hC : tw_Cl K.2.2.2 d' M' As τ r τ') (cont : tw_R K (pc + 3) ls (.long r :: st) τ') : tw_R K pc ls stk τ := rw_cS F hd hm hw hdd  hn hst hr hC (fun v t h => by obtain ⟨rfl, rfl⟩ := h; exact cont)
set_option maxRecDepth 10000 in
theorem rw_cSNi (F : tw_F K M d Q) {M' : Mt} {d' index n : Nat}  (As : List Value) {r : Int32} (hd : decode M.2.1 pc = .ok (.invokestatic index, 3)) (hm : tw_mS M' n) (hw : (M.1.cls, index, M'.1) ∈ tw_nest) (hdd : d' < d)  (hn : As.length = n) (hst : stk = As.reverse ++ st) (hr : (st.map fun v => v.category).sum ≤ 8) (hC : tw_Ci K.2.2.2 d' M' As τ r τ') (cont : tw_R K (pc + 3) ls (.int r :: st) τ') : tw_R K pc ls stk τ := rw_cSN F hd hm hw hdd  hn hst hr hC (fun v t h => by obtain ⟨rfl, rfl⟩ := h; exact cont)
set_option maxRecDepth 10000 in
theorem rw_cSNv (F : tw_F K M d Q) {M' : Mt} {d' index n : Nat}  (As : List Value)  (hd : decode M.2.1 pc = .ok (.invokestatic index, 3)) (hm : tw_mS M' n) (hw : (M.1.cls, index, M'.1) ∈ tw_nest) (hdd : d' < d)  (hn : As.length = n) (hst : stk = As.reverse ++ st) (hr : (st.map fun v => v.category).sum ≤ 8) (hC : tw_Cv K.2.2.2 d' M' As τ τ') (cont : tw_R K (pc + 3) ls (st) τ') : tw_R K pc ls stk τ := rw_cSN F hd hm hw hdd  hn hst hr hC (fun v t h => by obtain ⟨rfl, rfl⟩ := h; exact cont)
set_option maxRecDepth 10000 in
theorem rw_cSNl (F : tw_F K M d Q) {M' : Mt} {d' index n : Nat}  (As : List Value) {r : Int64} (hd : decode M.2.1 pc = .ok (.invokestatic index, 3)) (hm : tw_mS M' n) (hw : (M.1.cls, index, M'.1) ∈ tw_nest) (hdd : d' < d)  (hn : As.length = n) (hst : stk = As.reverse ++ st) (hr : (st.map fun v => v.category).sum ≤ 8) (hC : tw_Cl K.2.2.2 d' M' As τ r τ') (cont : tw_R K (pc + 3) ls (.long r :: st) τ') : tw_R K pc ls stk τ := rw_cSN F hd hm hw hdd  hn hst hr hC (fun v t h => by obtain ⟨rfl, rfl⟩ := h; exact cont)
set_option maxRecDepth 10000 in
theorem rw_cVsi (F : tw_F K M d Q) {M' : Mt} {d' index n : Nat} {i : Nat} (As : List Value) {r : Int32} (hd : decode M.2.1 pc = .ok (.invokevirtual index, 3)) (hm : tw_mV M' n) (hw : Cond.methodLink M.1.cls index M'.1 ∈ tw_gT) (hdd : d' < d) (hi : i < 28) (hcl : M'.1.cls = "java/lang/String") (hn : As.length = n) (hst : stk = As.reverse ++ .ref (202 + i) :: st) (hr : (st.map fun v => v.category).sum ≤ 8) (hC : tw_Ci K.2.2.2 d' M' (.ref (202 + i) :: As) τ r τ') (cont : tw_R K (pc + 3) ls (.int r :: st) τ') : tw_R K pc ls stk τ := rw_cVs F hd hm hw hdd hi hcl hn hst hr hC (fun v t h => by obtain ⟨rfl, rfl⟩ := h; exact cont)
set_option maxRecDepth 10000 in
theorem rw_cVsv (F : tw_F K M d Q) {M' : Mt} {d' index n : Nat} {i : Nat} (As : List Value)  (hd : decode M.2.1 pc = .ok (.invokevirtual index, 3)) (hm : tw_mV M' n) (hw : Cond.methodLink M.1.cls index M'.1 ∈ tw_gT) (hdd : d' < d) (hi : i < 28) (hcl : M'.1.cls = "java/lang/String") (hn : As.length = n) (hst : stk = As.reverse ++ .ref (202 + i) :: st) (hr : (st.map fun v => v.category).sum ≤ 8) (hC : tw_Cv K.2.2.2 d' M' (.ref (202 + i) :: As) τ τ') (cont : tw_R K (pc + 3) ls (st) τ') : tw_R K pc ls stk τ := rw_cVs F hd hm hw hdd hi hcl hn hst hr hC (fun v t h => by obtain ⟨rfl, rfl⟩ := h; exact cont)
set_option maxRecDepth 10000 in
theorem rw_cVsl (F : tw_F K M d Q) {M' : Mt} {d' index n : Nat} {i : Nat} (As : List Value) {r : Int64} (hd : decode M.2.1 pc = .ok (.invokevirtual index, 3)) (hm : tw_mV M' n) (hw : Cond.methodLink M.1.cls index M'.1 ∈ tw_gT) (hdd : d' < d) (hi : i < 28) (hcl : M'.1.cls = "java/lang/String") (hn : As.length = n) (hst : stk = As.reverse ++ .ref (202 + i) :: st) (hr : (st.map fun v => v.category).sum ≤ 8) (hC : tw_Cl K.2.2.2 d' M' (.ref (202 + i) :: As) τ r τ') (cont : tw_R K (pc + 3) ls (.long r :: st) τ') : tw_R K pc ls stk τ := rw_cVs F hd hm hw hdd hi hcl hn hst hr hC (fun v t h => by obtain ⟨rfl, rfl⟩ := h; exact cont)
end CALLS3
set_option maxRecDepth 10000 in
theorem fl_RX2_9 : tw_fl RX2 9 2 0 := ⟨_, rfl, by decide, gT_1 38 rfl rfl⟩
set_option maxRecDepth 10000 in
theorem pf_RX2_9 : tw_pf RX2 9 2 0 .int := ⟨_, rfl, by decide, gT_1 38 rfl rfl, rfl, by decide +kernel⟩
set_option maxRecDepth 10000 in
theorem fl_RX3_71 : tw_fl RX3 71 2 0 := ⟨_, rfl, by decide, gT_1 39 rfl rfl⟩
set_option maxRecDepth 10000 in
theorem pf_RX3_71 : tw_pf RX3 71 2 0 .int := ⟨_, rfl, by decide, gT_1 39 rfl rfl, rfl, by decide +kernel⟩
set_option maxRecDepth 10000 in
theorem fl_RX4_60 : tw_fl RX4 60 2 0 := ⟨_, rfl, by decide, gT_1 40 rfl rfl⟩
set_option maxRecDepth 10000 in
theorem pf_RX4_60 : tw_pf RX4 60 2 0 .int := ⟨_, rfl, by decide, gT_1 40 rfl rfl, rfl, by decide +kernel⟩
set_option maxRecDepth 10000 in
theorem fl_RX8_200 : tw_fl RX8 200 2 0 := ⟨_, rfl, by decide, gT_1 41 rfl rfl⟩
set_option maxRecDepth 10000 in
theorem pf_RX8_200 : tw_pf RX8 200 2 0 .int := ⟨_, rfl, by decide, gT_1 41 rfl rfl, rfl, by decide +kernel⟩
set_option maxRecDepth 10000 in
theorem fl_RX2_15 : tw_fl RX2 15 2 1 := ⟨_, rfl, by decide, gT_1 42 rfl rfl⟩
set_option maxRecDepth 10000 in
theorem pf_RX2_15 : tw_pf RX2 15 2 1 .int := ⟨_, rfl, by decide, gT_1 42 rfl rfl, rfl, by decide +kernel⟩
set_option maxRecDepth 10000 in
theorem fl_RX8_207 : tw_fl RX8 207 2 1 := ⟨_, rfl, by decide, gT_1 43 rfl rfl⟩
set_option maxRecDepth 10000 in
theorem pf_RX8_207 : tw_pf RX8 207 2 1 .int := ⟨_, rfl, by decide, gT_1 43 rfl rfl, rfl, by decide +kernel⟩
set_option maxRecDepth 10000 in
theorem fl_RX2_18 : tw_fl RX2 18 2 2 := ⟨_, rfl, by decide, gT_1 44 rfl rfl⟩
set_option maxRecDepth 10000 in
theorem pf_RX2_18 : tw_pf RX2 18 2 2 .int := ⟨_, rfl, by decide, gT_1 44 rfl rfl, rfl, by decide +kernel⟩
set_option maxRecDepth 10000 in
theorem fl_RX2_21 : tw_fl RX2 21 2 3 := ⟨_, rfl, by decide, gT_1 45 rfl rfl⟩
set_option maxRecDepth 10000 in
theorem pf_RX2_21 : tw_pf RX2 21 2 3 .int := ⟨_, rfl, by decide, gT_1 45 rfl rfl, rfl, by decide +kernel⟩
set_option maxRecDepth 10000 in
theorem fl_RX8_167 : tw_fl RX8 167 2 3 := ⟨_, rfl, by decide, gT_1 46 rfl rfl⟩
set_option maxRecDepth 10000 in
theorem pf_RX8_167 : tw_pf RX8 167 2 3 .int := ⟨_, rfl, by decide, gT_1 46 rfl rfl, rfl, by decide +kernel⟩
set_option maxRecDepth 10000 in
theorem fl_RX2_24 : tw_fl RX2 24 2 4 := ⟨_, rfl, by decide, gT_1 47 rfl rfl⟩
set_option maxRecDepth 10000 in
theorem pf_RX2_24 : tw_pf RX2 24 2 4 .int := ⟨_, rfl, by decide, gT_1 47 rfl rfl, rfl, by decide +kernel⟩
set_option maxRecDepth 10000 in
theorem fl_RX4_50 : tw_fl RX4 50 2 4 := ⟨_, rfl, by decide, gT_1 48 rfl rfl⟩
set_option maxRecDepth 10000 in
theorem pf_RX4_50 : tw_pf RX4 50 2 4 .int := ⟨_, rfl, by decide, gT_1 48 rfl rfl, rfl, by decide +kernel⟩
set_option maxRecDepth 10000 in
theorem fl_RX8_127 : tw_fl RX8 127 2 4 := ⟨_, rfl, by decide, gT_1 49 rfl rfl⟩
set_option maxRecDepth 10000 in
theorem pf_RX8_127 : tw_pf RX8 127 2 4 .int := ⟨_, rfl, by decide, gT_1 49 rfl rfl, rfl, by decide +kernel⟩
set_option maxRecDepth 10000 in
theorem fl_RX6_9 : tw_fl RX6 9 6 0 := ⟨_, rfl, by decide, gT_1 74 rfl rfl⟩
set_option maxRecDepth 10000 in
theorem pf_RX6_9 : tw_pf RX6 9 6 0 .int := ⟨_, rfl, by decide, gT_1 74 rfl rfl, rfl, by decide +kernel⟩
set_option maxRecDepth 10000 in
theorem fl_RX8_248 : tw_fl RX8 248 6 0 := ⟨_, rfl, by decide, gT_1 75 rfl rfl⟩
set_option maxRecDepth 10000 in
theorem pf_RX8_248 : tw_pf RX8 248 6 0 .int := ⟨_, rfl, by decide, gT_1 75 rfl rfl, rfl, by decide +kernel⟩
set_option maxRecDepth 10000 in
theorem fl_RX6_15 : tw_fl RX6 15 6 1 := ⟨_, rfl, by decide, gT_1 76 rfl rfl⟩
set_option maxRecDepth 10000 in
theorem pf_RX6_15 : tw_pf RX6 15 6 1 .int := ⟨_, rfl, by decide, gT_1 76 rfl rfl, rfl, by decide +kernel⟩
set_option maxRecDepth 10000 in
theorem fl_RX1_56 : tw_fl RX1 56 6 1 := ⟨_, rfl, by decide, gT_1 77 rfl rfl⟩
set_option maxRecDepth 10000 in
theorem pf_RX1_56 : tw_pf RX1 56 6 1 .int := ⟨_, rfl, by decide, gT_1 77 rfl rfl, rfl, by decide +kernel⟩
set_option maxRecDepth 10000 in
theorem fl_RX8_197 : tw_fl RX8 197 6 1 := ⟨_, rfl, by decide, gT_1 78 rfl rfl⟩
set_option maxRecDepth 10000 in
theorem pf_RX8_197 : tw_pf RX8 197 6 1 .int := ⟨_, rfl, by decide, gT_1 78 rfl rfl, rfl, by decide +kernel⟩
set_option maxRecDepth 10000 in
theorem fl_RX6_18 : tw_fl RX6 18 6 2 := ⟨_, rfl, by decide, gT_1 79 rfl rfl⟩
set_option maxRecDepth 10000 in
theorem pf_RX6_18 : tw_pf RX6 18 6 2 .int := ⟨_, rfl, by decide, gT_1 79 rfl rfl, rfl, by decide +kernel⟩
set_option maxRecDepth 10000 in
theorem fl_RX7_116 : tw_fl RX7 116 6 2 := ⟨_, rfl, by decide, gT_1 80 rfl rfl⟩
set_option maxRecDepth 10000 in
theorem pf_RX7_116 : tw_pf RX7 116 6 2 .int := ⟨_, rfl, by decide, gT_1 80 rfl rfl, rfl, by decide +kernel⟩
set_option maxRecDepth 10000 in
theorem fl_RX6_21 : tw_fl RX6 21 6 3 := ⟨_, rfl, by decide, gT_1 81 rfl rfl⟩
set_option maxRecDepth 10000 in
theorem pf_RX6_21 : tw_pf RX6 21 6 3 .int := ⟨_, rfl, by decide, gT_1 81 rfl rfl, rfl, by decide +kernel⟩
set_option maxRecDepth 10000 in
theorem fl_RX4_74 : tw_fl RX4 74 6 3 := ⟨_, rfl, by decide, gT_1 82 rfl rfl⟩
set_option maxRecDepth 10000 in
theorem pf_RX4_74 : tw_pf RX4 74 6 3 .int := ⟨_, rfl, by decide, gT_1 82 rfl rfl, rfl, by decide +kernel⟩
set_option maxRecDepth 10000 in
theorem fl_RX8_314 : tw_fl RX8 314 6 3 := ⟨_, rfl, by decide, gT_1 83 rfl rfl⟩
set_option maxRecDepth 10000 in
theorem pf_RX8_314 : tw_pf RX8 314 6 3 .int := ⟨_, rfl, by decide, gT_1 83 rfl rfl, rfl, by decide +kernel⟩
set_option maxRecDepth 10000 in
theorem fl_RX6_24 : tw_fl RX6 24 6 4 := ⟨_, rfl, by decide, gT_1 84 rfl rfl⟩
set_option maxRecDepth 10000 in
theorem pf_RX6_24 : tw_pf RX6 24 6 4 .int := ⟨_, rfl, by decide, gT_1 84 rfl rfl, rfl, by decide +kernel⟩
set_option maxRecDepth 10000 in
theorem fl_RX7_125 : tw_fl RX7 125 6 4 := ⟨_, rfl, by decide, gT_1 85 rfl rfl⟩
set_option maxRecDepth 10000 in
theorem pf_RX7_125 : tw_pf RX7 125 6 4 .int := ⟨_, rfl, by decide, gT_1 85 rfl rfl, rfl, by decide +kernel⟩
set_option maxRecDepth 10000 in
theorem fl_RX1_53 : tw_fl RX1 53 6 4 := ⟨_, rfl, by decide, gT_1 86 rfl rfl⟩
set_option maxRecDepth 10000 in
theorem pf_RX1_53 : tw_pf RX1 53 6 4 .int := ⟨_, rfl, by decide, gT_1 86 rfl rfl, rfl, by decide +kernel⟩
set_option maxRecDepth 10000 in
theorem fl_RX6_27 : tw_fl RX6 27 6 5 := ⟨_, rfl, by decide, gT_1 87 rfl rfl⟩
set_option maxRecDepth 10000 in
theorem pf_RX6_27 : tw_pf RX6 27 6 5 .int := ⟨_, rfl, by decide, gT_1 87 rfl rfl, rfl, by decide +kernel⟩
set_option maxRecDepth 10000 in
theorem fl_RX1_47 : tw_fl RX1 47 6 5 := ⟨_, rfl, by decide, gT_1 88 rfl rfl⟩
set_option maxRecDepth 10000 in
theorem pf_RX1_47 : tw_pf RX1 47 6 5 .int := ⟨_, rfl, by decide, gT_1 88 rfl rfl, rfl, by decide +kernel⟩
set_option maxRecDepth 10000 in
theorem fl_RX8_189 : tw_fl RX8 189 6 5 := ⟨_, rfl, by decide, gT_1 89 rfl rfl⟩
set_option maxRecDepth 10000 in
theorem pf_RX8_189 : tw_pf RX8 189 6 5 .int := ⟨_, rfl, by decide, gT_1 89 rfl rfl, rfl, by decide +kernel⟩
set_option maxRecDepth 10000 in
theorem fl_RX6_30 : tw_fl RX6 30 6 6 := ⟨_, rfl, by decide, gT_1 90 rfl rfl⟩
set_option maxRecDepth 10000 in
theorem pf_RX6_30 : tw_pf RX6 30 6 6 .int := ⟨_, rfl, by decide, gT_1 90 rfl rfl, rfl, by decide +kernel⟩
set_option maxRecDepth 10000 in
theorem fl_RX1_50 : tw_fl RX1 50 6 6 := ⟨_, rfl, by decide, gT_1 91 rfl rfl⟩
set_option maxRecDepth 10000 in
theorem pf_RX1_50 : tw_pf RX1 50 6 6 .int := ⟨_, rfl, by decide, gT_1 91 rfl rfl, rfl, by decide +kernel⟩
set_option maxRecDepth 10000 in
theorem fl_RX1_11 : tw_fl RX1 11 1 0 := ⟨_, rfl, by decide, gT_1 107 rfl rfl⟩
set_option maxRecDepth 10000 in
theorem fl_RX4_70 : tw_fl RX4 70 1 0 := ⟨_, rfl, by decide, gT_1 108 rfl rfl⟩
set_option maxRecDepth 10000 in
theorem fl_RX8_123 : tw_fl RX8 123 1 0 := ⟨_, rfl, by decide, gT_1 109 rfl rfl⟩
set_option maxRecDepth 10000 in
theorem fl_RX7_100 : tw_fl RX7 100 1 0 := ⟨_, rfl, by decide, gT_1 110 rfl rfl⟩
set_option maxRecDepth 10000 in
theorem fl_RX1_17 : tw_fl RX1 17 1 1 := ⟨_, rfl, by decide, gT_1 111 rfl rfl⟩
set_option maxRecDepth 10000 in
theorem pf_RX1_17 : tw_pf RX1 17 1 1 .int := ⟨_, rfl, by decide, gT_1 111 rfl rfl, rfl, by decide +kernel⟩
set_option maxRecDepth 10000 in
theorem fl_RX4_67 : tw_fl RX4 67 1 1 := ⟨_, rfl, by decide, gT_1 112 rfl rfl⟩
set_option maxRecDepth 10000 in
theorem pf_RX4_67 : tw_pf RX4 67 1 1 .int := ⟨_, rfl, by decide, gT_1 112 rfl rfl, rfl, by decide +kernel⟩
set_option maxRecDepth 10000 in
theorem fl_RX8_115 : tw_fl RX8 115 1 1 := ⟨_, rfl, by decide, gT_1 113 rfl rfl⟩
set_option maxRecDepth 10000 in
theorem pf_RX8_115 : tw_pf RX8 115 1 1 .int := ⟨_, rfl, by decide, gT_1 113 rfl rfl, rfl, by decide +kernel⟩
set_option maxRecDepth 10000 in
theorem fl_RX7_104 : tw_fl RX7 104 1 1 := ⟨_, rfl, by decide, gT_1 114 rfl rfl⟩
set_option maxRecDepth 10000 in
theorem pf_RX7_104 : tw_pf RX7 104 1 1 .int := ⟨_, rfl, by decide, gT_1 114 rfl rfl, rfl, by decide +kernel⟩
set_option maxRecDepth 10000 in
theorem fl_RX4_12 : tw_fl RX4 12 4 0 := ⟨_, rfl, by decide, gT_1 120 rfl rfl⟩
set_option maxRecDepth 10000 in
theorem fl_RX3_25 : tw_fl RX3 25 4 0 := ⟨_, rfl, by decide, gT_1 121 rfl rfl⟩
set_option maxRecDepth 10000 in
theorem fl_RX8_87 : tw_fl RX8 87 4 0 := ⟨_, rfl, by decide, gT_1 122 rfl rfl⟩
set_option maxRecDepth 10000 in
theorem fl_RX7_55 : tw_fl RX7 55 4 0 := ⟨_, rfl, by decide, gT_1 123 rfl rfl⟩
set_option maxRecDepth 10000 in
theorem fl_RX4_21 : tw_fl RX4 21 4 1 := ⟨_, rfl, by decide, gT_1 124 rfl rfl⟩
set_option maxRecDepth 10000 in
theorem fl_RX3_32 : tw_fl RX3 32 4 1 := ⟨_, rfl, by decide, gT_1 125 rfl rfl⟩
set_option maxRecDepth 10000 in
theorem fl_RX7_39 : tw_fl RX7 39 4 1 := ⟨_, rfl, by decide, gT_1 126 rfl rfl⟩
set_option maxRecDepth 10000 in
theorem fl_RX8_101 : tw_fl RX8 101 4 1 := ⟨_, rfl, by decide, gT_1 127 rfl rfl⟩
set_option maxRecDepth 10000 in
theorem fl_RX4_25 : tw_fl RX4 25 4 2 := ⟨_, rfl, by decide, gT_1 128 rfl rfl⟩
set_option maxRecDepth 10000 in
theorem fl_RX8_280 : tw_fl RX8 280 4 2 := ⟨_, rfl, by decide, gT_1 129 rfl rfl⟩
set_option maxRecDepth 10000 in
theorem fl_RX4_29 : tw_fl RX4 29 4 3 := ⟨_, rfl, by decide, gT_1 130 rfl rfl⟩
set_option maxRecDepth 10000 in
theorem pf_RX4_29 : tw_pf RX4 29 4 3 .int := ⟨_, rfl, by decide, gT_1 130 rfl rfl, rfl, by decide +kernel⟩
set_option maxRecDepth 10000 in
theorem fl_RX8_265 : tw_fl RX8 265 4 3 := ⟨_, rfl, by decide, gT_1 131 rfl rfl⟩
set_option maxRecDepth 10000 in
theorem pf_RX8_265 : tw_pf RX8 265 4 3 .int := ⟨_, rfl, by decide, gT_1 131 rfl rfl, rfl, by decide +kernel⟩
set_option maxRecDepth 10000 in
theorem fl_RX7_9 : tw_fl RX7 9 7 0 := ⟨_, rfl, by decide, gT_1 148 rfl rfl⟩
set_option maxRecDepth 10000 in
theorem fl_RX7_15 : tw_fl RX7 15 7 1 := ⟨_, rfl, by decide, gT_1 149 rfl rfl⟩
set_option maxRecDepth 10000 in
theorem pf_RX7_15 : tw_pf RX7 15 7 1 .int := ⟨_, rfl, by decide, gT_1 149 rfl rfl, rfl, by decide +kernel⟩
set_option maxRecDepth 10000 in
theorem fl_RX8_268 : tw_fl RX8 268 7 1 := ⟨_, rfl, by decide, gT_1 150 rfl rfl⟩
set_option maxRecDepth 10000 in
theorem pf_RX8_268 : tw_pf RX8 268 7 1 .int := ⟨_, rfl, by decide, gT_1 150 rfl rfl, rfl, by decide +kernel⟩
set_option maxRecDepth 10000 in
theorem fl_RX7_29 : tw_fl RX7 29 7 2 := ⟨_, rfl, by decide, gT_1 151 rfl rfl⟩
set_option maxRecDepth 10000 in
theorem pf_RX7_29 : tw_pf RX7 29 7 2 .int := ⟨_, rfl, by decide, gT_1 151 rfl rfl, rfl, by decide +kernel⟩
set_option maxRecDepth 10000 in
theorem fl_RX7_32 : tw_fl RX7 32 7 3 := ⟨_, rfl, by decide, gT_1 152 rfl rfl⟩
set_option maxRecDepth 10000 in
theorem pf_RX7_32 : tw_pf RX7 32 7 3 .int := ⟨_, rfl, by decide, gT_1 152 rfl rfl, rfl, by decide +kernel⟩
set_option maxRecDepth 10000 in
theorem fl_RX7_19 : tw_fl RX7 19 7 4 := ⟨_, rfl, by decide, gT_1 153 rfl rfl⟩
set_option maxRecDepth 10000 in
theorem pf_RX7_19 : tw_pf RX7 19 7 4 .int := ⟨_, rfl, by decide, gT_1 153 rfl rfl, rfl, by decide +kernel⟩
set_option maxRecDepth 10000 in
theorem fl_RX7_81 : tw_fl RX7 81 7 5 := ⟨_, rfl, by decide, gT_1 154 rfl rfl⟩
set_option maxRecDepth 10000 in
theorem pf_RX7_81 : tw_pf RX7 81 7 5 .int := ⟨_, rfl, by decide, gT_1 154 rfl rfl, rfl, by decide +kernel⟩
set_option maxRecDepth 10000 in
theorem fl_RX0_9 : tw_fl RX0 9 0 0 := ⟨_, rfl, by decide, gT_1 180 rfl rfl⟩
set_option maxRecDepth 10000 in
theorem pf_RX0_9 : tw_pf RX0 9 0 0 .int := ⟨_, rfl, by decide, gT_1 180 rfl rfl, rfl, by decide +kernel⟩
set_option maxRecDepth 10000 in
theorem fl_RX8_245 : tw_fl RX8 245 0 0 := ⟨_, rfl, by decide, gT_1 181 rfl rfl⟩
set_option maxRecDepth 10000 in
theorem pf_RX8_245 : tw_pf RX8 245 0 0 .int := ⟨_, rfl, by decide, gT_1 181 rfl rfl, rfl, by decide +kernel⟩
set_option maxRecDepth 10000 in
theorem fl_RX0_15 : tw_fl RX0 15 0 1 := ⟨_, rfl, by decide, gT_1 182 rfl rfl⟩
set_option maxRecDepth 10000 in
theorem pf_RX0_15 : tw_pf RX0 15 0 1 .int := ⟨_, rfl, by decide, gT_1 182 rfl rfl, rfl, by decide +kernel⟩
set_option maxRecDepth 10000 in
theorem fl_RX0_18 : tw_fl RX0 18 0 2 := ⟨_, rfl, by decide, gT_1 183 rfl rfl⟩
set_option maxRecDepth 10000 in
theorem pf_RX0_18 : tw_pf RX0 18 0 2 .boolean := ⟨_, rfl, by decide, gT_1 183 rfl rfl, rfl, by decide +kernel⟩
set_option maxRecDepth 10000 in
theorem fl_RX3_12 : tw_fl RX3 12 3 0 := ⟨_, rfl, by decide, gT_1 202 rfl rfl⟩
set_option maxRecDepth 10000 in
theorem fl_RX3_20 : tw_fl RX3 20 3 1 := ⟨_, rfl, by decide, gT_1 203 rfl rfl⟩
set_option maxRecDepth 10000 in
theorem fl_RX3_45 : tw_fl RX3 45 3 2 := ⟨_, rfl, by decide, gT_1 204 rfl rfl⟩
set_option maxRecDepth 10000 in
theorem pf_RX3_45 : tw_pf RX3 45 3 2 .int := ⟨_, rfl, by decide, gT_1 204 rfl rfl, rfl, by decide +kernel⟩
set_option maxRecDepth 10000 in
theorem fl_RX3_49 : tw_fl RX3 49 3 3 := ⟨_, rfl, by decide, gT_1 205 rfl rfl⟩
set_option maxRecDepth 10000 in
theorem pf_RX3_49 : tw_pf RX3 49 3 3 .int := ⟨_, rfl, by decide, gT_1 205 rfl rfl, rfl, by decide +kernel⟩
set_option maxRecDepth 10000 in
theorem fl_RX3_53 : tw_fl RX3 53 3 4 := ⟨_, rfl, by decide, gT_1 206 rfl rfl⟩
set_option maxRecDepth 10000 in
theorem pf_RX3_53 : tw_pf RX3 53 3 4 .int := ⟨_, rfl, by decide, gT_1 206 rfl rfl, rfl, by decide +kernel⟩
set_option maxRecDepth 10000 in
theorem fl_RX5_9 : tw_fl RX5 9 5 0 := ⟨_, rfl, by decide, gT_1 223 rfl rfl⟩
set_option maxRecDepth 10000 in
theorem fl_RX0_27 : tw_fl RX0 27 5 0 := ⟨_, rfl, by decide, gT_1 224 rfl rfl⟩
set_option maxRecDepth 10000 in
theorem fl_RX8_305 : tw_fl RX8 305 5 0 := ⟨_, rfl, by decide, gT_1 225 rfl rfl⟩
set_option maxRecDepth 10000 in
theorem fl_RX5_15 : tw_fl RX5 15 5 1 := ⟨_, rfl, by decide, gT_1 226 rfl rfl⟩
set_option maxRecDepth 10000 in
theorem pf_RX5_15 : tw_pf RX5 15 5 1 .int := ⟨_, rfl, by decide, gT_1 226 rfl rfl, rfl, by decide +kernel⟩
set_option maxRecDepth 10000 in
theorem fl_RX8_299 : tw_fl RX8 299 5 1 := ⟨_, rfl, by decide, gT_1 227 rfl rfl⟩
set_option maxRecDepth 10000 in
theorem pf_RX8_299 : tw_pf RX8 299 5 1 .int := ⟨_, rfl, by decide, gT_1 227 rfl rfl, rfl, by decide +kernel⟩
set_option maxRecDepth 10000 in
theorem fl_RX5_19 : tw_fl RX5 19 5 2 := ⟨_, rfl, by decide, gT_1 228 rfl rfl⟩
set_option maxRecDepth 10000 in
theorem pf_RX5_19 : tw_pf RX5 19 5 2 .int := ⟨_, rfl, by decide, gT_1 228 rfl rfl, rfl, by decide +kernel⟩
set_option maxRecDepth 10000 in
theorem fl_RX0_22 : tw_fl RX0 22 5 2 := ⟨_, rfl, by decide, gT_1 229 rfl rfl⟩
set_option maxRecDepth 10000 in
theorem pf_RX0_22 : tw_pf RX0 22 5 2 .int := ⟨_, rfl, by decide, gT_1 229 rfl rfl, rfl, by decide +kernel⟩
set_option maxRecDepth 10000 in
theorem fl_RX8_292 : tw_fl RX8 292 5 2 := ⟨_, rfl, by decide, gT_1 230 rfl rfl⟩
set_option maxRecDepth 10000 in
theorem pf_RX8_292 : tw_pf RX8 292 5 2 .int := ⟨_, rfl, by decide, gT_1 230 rfl rfl, rfl, by decide +kernel⟩
set_option maxRecDepth 10000 in
theorem fl_RX8_12 : tw_fl RX8 12 8 0 := ⟨_, rfl, by decide, gT_1 238 rfl rfl⟩
set_option maxRecDepth 10000 in
theorem fl_RX8_16 : tw_fl RX8 16 8 1 := ⟨_, rfl, by decide, gT_1 239 rfl rfl⟩
set_option maxRecDepth 10000 in
theorem fl_RX8_19 : tw_fl RX8 19 8 2 := ⟨_, rfl, by decide, gT_2 0 rfl rfl⟩
set_option maxRecDepth 10000 in
theorem pf_RX8_19 : tw_pf RX8 19 8 2 .boolean := ⟨_, rfl, by decide, gT_2 0 rfl rfl, rfl, by decide +kernel⟩
set_option maxRecDepth 10000 in
theorem fl_RX8_26 : tw_fl RX8 26 8 3 := ⟨_, rfl, by decide, gT_2 1 rfl rfl⟩
set_option maxRecDepth 10000 in
theorem fl_RX8_32 : tw_fl RX8 32 8 4 := ⟨_, rfl, by decide, gT_2 2 rfl rfl⟩
set_option maxRecDepth 10000 in
theorem fl_RX8_36 : tw_fl RX8 36 8 5 := ⟨_, rfl, by decide, gT_2 3 rfl rfl⟩
set_option maxRecDepth 10000 in
theorem fl_RX8_40 : tw_fl RX8 40 8 6 := ⟨_, rfl, by decide, gT_2 4 rfl rfl⟩
set_option maxRecDepth 10000 in
theorem fl_RX8_46 : tw_fl RX8 46 8 7 := ⟨_, rfl, by decide, gT_2 5 rfl rfl⟩
set_option maxRecDepth 10000 in
theorem fl_RX8_53 : tw_fl RX8 53 8 8 := ⟨_, rfl, by decide, gT_2 6 rfl rfl⟩
set_option maxRecDepth 10000 in
theorem fl_RX8_57 : tw_fl RX8 57 8 9 := ⟨_, rfl, by decide, gT_2 7 rfl rfl⟩
set_option maxRecDepth 10000 in
theorem fl_RX8_60 : tw_fl RX8 60 8 10 := ⟨_, rfl, by decide, gT_2 8 rfl rfl⟩
set_option maxRecDepth 10000 in
theorem fl_RX8_66 : tw_fl RX8 66 8 11 := ⟨_, rfl, by decide, gT_2 9 rfl rfl⟩
set_option maxRecDepth 10000 in
theorem fl_RX8_73 : tw_fl RX8 73 8 12 := ⟨_, rfl, by decide, gT_2 10 rfl rfl⟩
set_option maxRecDepth 10000 in
theorem fw_RJ0_38 : Cond.fieldLink RJ0 38 "java/lang/String" "COMPACT_STRINGS" "Z" ∈ tw_gT := gT_4 7 rfl rfl
set_option maxRecDepth 10000 in
theorem fw_RJ0_1053 : Cond.fieldLink RJ0 1053 "jdk/internal/util/Preconditions" "SIOOBE_FORMATTER" "Ljava/util/function/BiFunction;" ∈ tw_gT := gT_4 23 rfl rfl
set_option maxRecDepth 10000 in
theorem fw_RJ2_44 : Cond.fieldLink RJ2 44 "java/lang/StringUTF16" "$assertionsDisabled" "Z" ∈ tw_gT := gT_4 41 rfl rfl
set_option maxRecDepth 10000 in
theorem fw_RJ2_59 : Cond.fieldLink RJ2 59 "java/lang/StringUTF16" "HI_BYTE_SHIFT" "I" ∈ tw_gT := gT_4 43 rfl rfl
set_option maxRecDepth 10000 in
theorem fw_RJ2_63 : Cond.fieldLink RJ2 63 "java/lang/StringUTF16" "LO_BYTE_SHIFT" "I" ∈ tw_gT := gT_4 45 rfl rfl
set_option maxRecDepth 10000 in
theorem fw_RX8_332 : Cond.fieldLink RX8 332 "TwinLights" "UPPER_KIND" "[I" ∈ tw_gT := gT_4 90 rfl rfl
set_option maxRecDepth 10000 in
theorem fl_RX9_9 : tw_fl RX9 9 9 0 := ⟨_, rfl, by decide, gT_4 170 rfl rfl⟩
set_option maxRecDepth 10000 in
theorem fl_RX9_13 : tw_fl RX9 13 9 1 := ⟨_, rfl, by decide, gT_4 171 rfl rfl⟩
set_option maxRecDepth 10000 in
theorem fl_RX9_16 : tw_fl RX9 16 9 2 := ⟨_, rfl, by decide, gT_4 172 rfl rfl⟩
set_option maxRecDepth 10000 in
theorem fl_RX9_305 : tw_fl RX9 305 9 3 := ⟨_, rfl, by decide, gT_4 173 rfl rfl⟩
set_option maxRecDepth 10000 in
theorem pf_RX9_305 : tw_pf RX9 305 9 3 .boolean := ⟨_, rfl, by decide, gT_4 173 rfl rfl, rfl, by decide +kernel⟩
set_option maxRecDepth 10000 in
theorem fl_RX9_19 : tw_fl RX9 19 9 4 := ⟨_, rfl, by decide, gT_4 174 rfl rfl⟩
set_option maxRecDepth 10000 in
theorem fl_RX9_22 : tw_fl RX9 22 9 5 := ⟨_, rfl, by decide, gT_4 175 rfl rfl⟩
set_option maxRecDepth 10000 in
theorem fl_RX9_211 : tw_fl RX9 211 9 6 := ⟨_, rfl, by decide, gT_4 176 rfl rfl⟩
set_option maxRecDepth 10000 in
theorem pf_RX9_211 : tw_pf RX9 211 9 6 .int := ⟨_, rfl, by decide, gT_4 176 rfl rfl, rfl, by decide +kernel⟩
set_option maxRecDepth 10000 in
theorem fl_RX9_218 : tw_fl RX9 218 9 7 := ⟨_, rfl, by decide, gT_4 177 rfl rfl⟩
set_option maxRecDepth 10000 in
theorem pf_RX9_218 : tw_pf RX9 218 9 7 .int := ⟨_, rfl, by decide, gT_4 177 rfl rfl, rfl, by decide +kernel⟩
set_option maxRecDepth 10000 in
theorem fl_RX9_215 : tw_fl RX9 215 9 8 := ⟨_, rfl, by decide, gT_4 178 rfl rfl⟩
set_option maxRecDepth 10000 in
theorem pf_RX9_215 : tw_pf RX9 215 9 8 .int := ⟨_, rfl, by decide, gT_4 178 rfl rfl, rfl, by decide +kernel⟩
set_option maxRecDepth 10000 in
theorem fl_RX9_227 : tw_fl RX9 227 9 9 := ⟨_, rfl, by decide, gT_4 179 rfl rfl⟩
set_option maxRecDepth 10000 in
theorem pf_RX9_227 : tw_pf RX9 227 9 9 .int := ⟨_, rfl, by decide, gT_4 179 rfl rfl, rfl, by decide +kernel⟩
set_option maxRecDepth 10000 in
theorem fl_RX9_224 : tw_fl RX9 224 9 10 := ⟨_, rfl, by decide, gT_4 180 rfl rfl⟩
set_option maxRecDepth 10000 in
theorem pf_RX9_224 : tw_pf RX9 224 9 10 .int := ⟨_, rfl, by decide, gT_4 180 rfl rfl, rfl, by decide +kernel⟩
set_option maxRecDepth 10000 in
theorem fl_RX9_237 : tw_fl RX9 237 9 11 := ⟨_, rfl, by decide, gT_4 181 rfl rfl⟩
set_option maxRecDepth 10000 in
theorem pf_RX9_237 : tw_pf RX9 237 9 11 .boolean := ⟨_, rfl, by decide, gT_4 181 rfl rfl, rfl, by decide +kernel⟩
set_option maxRecDepth 10000 in
theorem fl_RX9_41 : tw_fl RX9 41 9 12 := ⟨_, rfl, by decide, gT_4 182 rfl rfl⟩
set_option maxRecDepth 10000 in
theorem fl_RX9_45 : tw_fl RX9 45 9 13 := ⟨_, rfl, by decide, gT_4 183 rfl rfl⟩
set_option maxRecDepth 10000 in
theorem fl_RX9_248 : tw_fl RX9 248 9 14 := ⟨_, rfl, by decide, gT_4 184 rfl rfl⟩
set_option maxRecDepth 10000 in
theorem pf_RX9_248 : tw_pf RX9 248 9 14 .int := ⟨_, rfl, by decide, gT_4 184 rfl rfl, rfl, by decide +kernel⟩
set_option maxRecDepth 10000 in
theorem fl_RX9_255 : tw_fl RX9 255 9 15 := ⟨_, rfl, by decide, gT_4 185 rfl rfl⟩
set_option maxRecDepth 10000 in
theorem pf_RX9_255 : tw_pf RX9 255 9 15 .int := ⟨_, rfl, by decide, gT_4 185 rfl rfl, rfl, by decide +kernel⟩
set_option maxRecDepth 10000 in
theorem fl_RX9_48 : tw_fl RX9 48 9 16 := ⟨_, rfl, by decide, gT_4 186 rfl rfl⟩
set_option maxRecDepth 10000 in
theorem fl_RX9_51 : tw_fl RX9 51 9 17 := ⟨_, rfl, by decide, gT_4 187 rfl rfl⟩
set_option maxRecDepth 10000 in
theorem fl_RX9_54 : tw_fl RX9 54 9 18 := ⟨_, rfl, by decide, gT_4 188 rfl rfl⟩
set_option maxRecDepth 10000 in
theorem fl_RX9_57 : tw_fl RX9 57 9 19 := ⟨_, rfl, by decide, gT_4 189 rfl rfl⟩
set_option maxRecDepth 10000 in
theorem fw_RJ0_9 : Cond.fieldLink RJ0 9 "java/lang/String" "value" "[B" ∈ tw_gT := gT_6 146 rfl rfl
set_option maxRecDepth 10000 in
theorem fw_RJ0_15 : Cond.fieldLink RJ0 15 "java/lang/String" "coder" "B" ∈ tw_gT := gT_6 147 rfl rfl
set_option maxRecDepth 10000 in
theorem mv_X0_hear : tw_mV mX0_hear 2 := ⟨⟨gT_3 126 rfl rfl, gT_1 7 rfl rfl, ⟨by decide +kernel, by decide +kernel, by decide +kernel⟩, by decide⟩, gT_3 124 rfl rfl, gT_3 125 rfl rfl⟩
set_option maxRecDepth 10000 in
theorem mv_X0_hearOne : tw_mV mX0_hearOne 3 := ⟨⟨gT_3 130 rfl rfl, gT_1 7 rfl rfl, ⟨by decide +kernel, by decide +kernel, by decide +kernel⟩, by decide⟩, gT_3 129 rfl rfl, gT_s 12 rfl rfl⟩
set_option maxRecDepth 10000 in
theorem mv_X0_canBeMet : tw_mV mX0_canBeMet 0 := ⟨⟨gT_3 138 rfl rfl, gT_1 7 rfl rfl, ⟨by decide +kernel, by decide +kernel, by decide +kernel⟩, by decide⟩, gT_3 136 rfl rfl, gT_3 137 rfl rfl⟩
set_option maxRecDepth 10000 in
theorem mv_X0_freeBits : tw_mV mX0_freeBits 0 := ⟨⟨gT_3 142 rfl rfl, gT_1 7 rfl rfl, ⟨by decide +kernel, by decide +kernel, by decide +kernel⟩, by decide⟩, gT_3 140 rfl rfl, gT_3 141 rfl rfl⟩
set_option maxRecDepth 10000 in
theorem mv_X1_take : tw_mV mX1_take 1 := ⟨⟨gT_3 34 rfl rfl, gT_1 4 rfl rfl, ⟨by decide +kernel, by decide +kernel, by decide +kernel⟩, by decide⟩, gT_3 32 rfl rfl, gT_3 33 rfl rfl⟩
set_option maxRecDepth 10000 in
theorem mv_X1_isFull : tw_mV mX1_isFull 0 := ⟨⟨gT_2 98 rfl rfl, gT_1 4 rfl rfl, ⟨by decide +kernel, by decide +kernel, by decide +kernel⟩, by decide⟩, gT_2 96 rfl rfl, gT_2 97 rfl rfl⟩
set_option maxRecDepth 10000 in
theorem mv_X1_launch : tw_mV mX1_launch 2 := ⟨⟨gT_2 103 rfl rfl, gT_1 4 rfl rfl, ⟨by decide +kernel, by decide +kernel, by decide +kernel⟩, by decide⟩, gT_2 101 rfl rfl, gT_2 102 rfl rfl⟩
set_option maxRecDepth 10000 in
theorem mv_X1_sail : tw_mV mX1_sail 2 := ⟨⟨gT_2 168 rfl rfl, gT_1 4 rfl rfl, ⟨by decide +kernel, by decide +kernel, by decide +kernel⟩, by decide⟩, gT_2 166 rfl rfl, gT_2 167 rfl rfl⟩
set_option maxRecDepth 10000 in
theorem mv_X1_sailOn : tw_mV mX1_sailOn 2 := ⟨⟨gT_3 39 rfl rfl, gT_1 4 rfl rfl, ⟨by decide +kernel, by decide +kernel, by decide +kernel⟩, by decide⟩, gT_3 37 rfl rfl, gT_3 38 rfl rfl⟩
set_option maxRecDepth 10000 in
theorem mv_X1_strandedOfAll : tw_mV mX1_strandedOfAll 0 := ⟨⟨gT_2 196 rfl rfl, gT_1 4 rfl rfl, ⟨by decide +kernel, by decide +kernel, by decide +kernel⟩, by decide⟩, gT_2 194 rfl rfl, gT_2 195 rfl rfl⟩
set_option maxRecDepth 10000 in
theorem mv_X1_sawOfAll : tw_mV mX1_sawOfAll 0 := ⟨⟨gT_2 204 rfl rfl, gT_1 4 rfl rfl, ⟨by decide +kernel, by decide +kernel, by decide +kernel⟩, by decide⟩, gT_2 202 rfl rfl, gT_2 203 rfl rfl⟩
set_option maxRecDepth 10000 in
theorem mv_X1_shipsInPort : tw_mV mX1_shipsInPort 0 := ⟨⟨gT_2 208 rfl rfl, gT_1 4 rfl rfl, ⟨by decide +kernel, by decide +kernel, by decide +kernel⟩, by decide⟩, gT_2 206 rfl rfl, gT_2 207 rfl rfl⟩
set_option maxRecDepth 10000 in
theorem mv_X1_shipsAt : tw_mV mX1_shipsAt 1 := ⟨⟨gT_2 153 rfl rfl, gT_1 4 rfl rfl, ⟨by decide +kernel, by decide +kernel, by decide +kernel⟩, by decide⟩, gT_2 151 rfl rfl, gT_2 152 rfl rfl⟩
set_option maxRecDepth 10000 in
theorem mv_X1_cellsTaken : tw_mV mX1_cellsTaken 0 := ⟨⟨gT_2 212 rfl rfl, gT_1 4 rfl rfl, ⟨by decide +kernel, by decide +kernel, by decide +kernel⟩, by decide⟩, gT_2 210 rfl rfl, gT_2 211 rfl rfl⟩
set_option maxRecDepth 10000 in
theorem mv_X1_nearestToFirst : tw_mV mX1_nearestToFirst 0 := ⟨⟨gT_2 216 rfl rfl, gT_1 4 rfl rfl, ⟨by decide +kernel, by decide +kernel, by decide +kernel⟩, by decide⟩, gT_2 214 rfl rfl, gT_2 215 rfl rfl⟩
set_option maxRecDepth 10000 in
theorem mv_X2_take : tw_mV mX2_take 1 := ⟨⟨gT_3 29 rfl rfl, gT_1 3 rfl rfl, ⟨by decide +kernel, by decide +kernel, by decide +kernel⟩, by decide⟩, gT_3 27 rfl rfl, gT_3 28 rfl rfl⟩
set_option maxRecDepth 10000 in
theorem ms_X2_mayBecome : tw_mS mX2_mayBecome 2 := ⟨⟨gT_2 44 rfl rfl, gT_1 3 rfl rfl, ⟨by decide +kernel, by decide +kernel, by decide +kernel⟩, by decide⟩, gT_2 43 rfl rfl⟩
set_option maxRecDepth 10000 in
theorem mv_X2_become : tw_mV mX2_become 2 := ⟨⟨gT_2 86 rfl rfl, gT_1 3 rfl rfl, ⟨by decide +kernel, by decide +kernel, by decide +kernel⟩, by decide⟩, gT_2 84 rfl rfl, gT_2 85 rfl rfl⟩
set_option maxRecDepth 10000 in
theorem mv_X2_told : tw_mV mX2_told 1 := ⟨⟨gT_2 58 rfl rfl, gT_1 3 rfl rfl, ⟨by decide +kernel, by decide +kernel, by decide +kernel⟩, by decide⟩, gT_2 56 rfl rfl, gT_2 57 rfl rfl⟩
set_option maxRecDepth 10000 in
theorem mv_X2_tickAhead : tw_mV mX2_tickAhead 1 := ⟨⟨gT_2 66 rfl rfl, gT_1 3 rfl rfl, ⟨by decide +kernel, by decide +kernel, by decide +kernel⟩, by decide⟩, gT_2 64 rfl rfl, gT_2 65 rfl rfl⟩
set_option maxRecDepth 10000 in
theorem mv_X2_bitAhead : tw_mV mX2_bitAhead 1 := ⟨⟨gT_3 70 rfl rfl, gT_1 3 rfl rfl, ⟨by decide +kernel, by decide +kernel, by decide +kernel⟩, by decide⟩, gT_3 68 rfl rfl, gT_3 69 rfl rfl⟩
set_option maxRecDepth 10000 in
theorem mv_X2_firstAhead : tw_mV mX2_firstAhead 1 := ⟨⟨gT_2 62 rfl rfl, gT_1 3 rfl rfl, ⟨by decide +kernel, by decide +kernel, by decide +kernel⟩, by decide⟩, gT_2 60 rfl rfl, gT_2 61 rfl rfl⟩
set_option maxRecDepth 10000 in
theorem mv_X2_secondAhead : tw_mV mX2_secondAhead 1 := ⟨⟨gT_2 74 rfl rfl, gT_1 3 rfl rfl, ⟨by decide +kernel, by decide +kernel, by decide +kernel⟩, by decide⟩, gT_2 72 rfl rfl, gT_2 73 rfl rfl⟩
set_option maxRecDepth 10000 in
theorem mv_X2_ticksToSource : tw_mV mX2_ticksToSource 1 := ⟨⟨gT_2 82 rfl rfl, gT_1 3 rfl rfl, ⟨by decide +kernel, by decide +kernel, by decide +kernel⟩, by decide⟩, gT_2 80 rfl rfl, gT_2 81 rfl rfl⟩
set_option maxRecDepth 10000 in
theorem mv_X2_shownAhead : tw_mV mX2_shownAhead 1 := ⟨⟨gT_2 78 rfl rfl, gT_1 3 rfl rfl, ⟨by decide +kernel, by decide +kernel, by decide +kernel⟩, by decide⟩, gT_2 76 rfl rfl, gT_2 77 rfl rfl⟩
set_option maxRecDepth 10000 in
theorem mv_X2_passTick : tw_mV mX2_passTick 0 := ⟨⟨gT_2 192 rfl rfl, gT_1 3 rfl rfl, ⟨by decide +kernel, by decide +kernel, by decide +kernel⟩, by decide⟩, gT_2 190 rfl rfl, gT_2 191 rfl rfl⟩
set_option maxRecDepth 10000 in
theorem mv_X3_leastPattern : tw_mV mX3_leastPattern 2 := ⟨⟨gT_3 50 rfl rfl, gT_1 8 rfl rfl, ⟨by decide +kernel, by decide +kernel, by decide +kernel⟩, by decide⟩, gT_3 48 rfl rfl, gT_3 49 rfl rfl⟩
set_option maxRecDepth 10000 in
theorem mv_X3_tryFrom : tw_mV mX3_tryFrom 2 := ⟨⟨gT_3 58 rfl rfl, gT_1 8 rfl rfl, ⟨by decide +kernel, by decide +kernel, by decide +kernel⟩, by decide⟩, gT_3 57 rfl rfl, gT_s 5 rfl rfl⟩
set_option maxRecDepth 10000 in
theorem mv_X3_tryBit : tw_mV mX3_tryBit 2 := ⟨⟨gT_3 63 rfl rfl, gT_1 8 rfl rfl, ⟨by decide +kernel, by decide +kernel, by decide +kernel⟩, by decide⟩, gT_3 62 rfl rfl, gT_s 6 rfl rfl⟩
set_option maxRecDepth 10000 in
theorem mv_X4_take : tw_mV mX4_take 1 := ⟨⟨gT_3 204 rfl rfl, gT_1 2 rfl rfl, ⟨by decide +kernel, by decide +kernel, by decide +kernel⟩, by decide⟩, gT_3 202 rfl rfl, gT_3 203 rfl rfl⟩
set_option maxRecDepth 10000 in
theorem mv_X4_passTick : tw_mV mX4_passTick 0 := ⟨⟨gT_2 163 rfl rfl, gT_1 2 rfl rfl, ⟨by decide +kernel, by decide +kernel, by decide +kernel⟩, by decide⟩, gT_2 161 rfl rfl, gT_2 162 rfl rfl⟩
set_option maxRecDepth 10000 in
theorem mv_X4_passNight : tw_mV mX4_passNight 0 := ⟨⟨gT_3 163 rfl rfl, gT_1 2 rfl rfl, ⟨by decide +kernel, by decide +kernel, by decide +kernel⟩, by decide⟩, gT_3 161 rfl rfl, gT_3 162 rfl rfl⟩
set_option maxRecDepth 10000 in
theorem mv_X4_draw : tw_mV mX4_draw 0 := ⟨⟨gT_3 167 rfl rfl, gT_1 2 rfl rfl, ⟨by decide +kernel, by decide +kernel, by decide +kernel⟩, by decide⟩, gT_3 166 rfl rfl, gT_s 14 rfl rfl⟩
set_option maxRecDepth 10000 in
theorem mv_X4_spotsTaken : tw_mV mX4_spotsTaken 0 := ⟨⟨gT_4 150 rfl rfl, gT_1 2 rfl rfl, ⟨by decide +kernel, by decide +kernel, by decide +kernel⟩, by decide⟩, gT_4 148 rfl rfl, gT_4 149 rfl rfl⟩
set_option maxRecDepth 10000 in
theorem mv_X5_isMissing : tw_mV mX5_isMissing 0 := ⟨⟨gT_3 114 rfl rfl, gT_1 9 rfl rfl, ⟨by decide +kernel, by decide +kernel, by decide +kernel⟩, by decide⟩, gT_3 112 rfl rfl, gT_3 113 rfl rfl⟩
set_option maxRecDepth 10000 in
theorem mv_X5_renew : tw_mV mX5_renew 2 := ⟨⟨gT_4 101 rfl rfl, gT_1 9 rfl rfl, ⟨by decide +kernel, by decide +kernel, by decide +kernel⟩, by decide⟩, gT_4 99 rfl rfl, gT_4 100 rfl rfl⟩
set_option maxRecDepth 10000 in
theorem mv_X5_put : tw_mV mX5_put 2 := ⟨⟨gT_4 109 rfl rfl, gT_1 9 rfl rfl, ⟨by decide +kernel, by decide +kernel, by decide +kernel⟩, by decide⟩, gT_4 107 rfl rfl, gT_4 108 rfl rfl⟩
set_option maxRecDepth 10000 in
theorem mv_X5_hasPart : tw_mV mX5_hasPart 2 := ⟨⟨gT_4 121 rfl rfl, gT_1 9 rfl rfl, ⟨by decide +kernel, by decide +kernel, by decide +kernel⟩, by decide⟩, gT_4 119 rfl rfl, gT_4 120 rfl rfl⟩
set_option maxRecDepth 10000 in
theorem mv_X6_renew : tw_mV mX6_renew 2 := ⟨⟨gT_2 108 rfl rfl, gT_1 5 rfl rfl, ⟨by decide +kernel, by decide +kernel, by decide +kernel⟩, by decide⟩, gT_2 106 rfl rfl, gT_2 107 rfl rfl⟩
set_option maxRecDepth 10000 in
theorem mv_X6_take : tw_mV mX6_take 1 := ⟨⟨gT_2 225 rfl rfl, gT_1 5 rfl rfl, ⟨by decide +kernel, by decide +kernel, by decide +kernel⟩, by decide⟩, gT_2 223 rfl rfl, gT_2 224 rfl rfl⟩
set_option maxRecDepth 10000 in
theorem ms_X6_mayBecome : tw_mS mX6_mayBecome 2 := ⟨⟨gT_2 140 rfl rfl, gT_1 5 rfl rfl, ⟨by decide +kernel, by decide +kernel, by decide +kernel⟩, by decide⟩, gT_2 139 rfl rfl⟩
set_option maxRecDepth 10000 in
theorem mv_X6_become : tw_mV mX6_become 2 := ⟨⟨gT_2 145 rfl rfl, gT_1 5 rfl rfl, ⟨by decide +kernel, by decide +kernel, by decide +kernel⟩, by decide⟩, gT_2 143 rfl rfl, gT_2 144 rfl rfl⟩
set_option maxRecDepth 10000 in
theorem mv_X6_told : tw_mV mX6_told 1 := ⟨⟨gT_2 133 rfl rfl, gT_1 5 rfl rfl, ⟨by decide +kernel, by decide +kernel, by decide +kernel⟩, by decide⟩, gT_2 131 rfl rfl, gT_2 132 rfl rfl⟩
set_option maxRecDepth 10000 in
theorem mv_X6_seen : tw_mV mX6_seen 2 := ⟨⟨gT_2 125 rfl rfl, gT_1 5 rfl rfl, ⟨by decide +kernel, by decide +kernel, by decide +kernel⟩, by decide⟩, gT_2 123 rfl rfl, gT_2 124 rfl rfl⟩
set_option maxRecDepth 10000 in
theorem mv_X6_lightsNear : tw_mV mX6_lightsNear 0 := ⟨⟨gT_2 129 rfl rfl, gT_1 5 rfl rfl, ⟨by decide +kernel, by decide +kernel, by decide +kernel⟩, by decide⟩, gT_2 128 rfl rfl, gT_s 2 rfl rfl⟩
set_option maxRecDepth 10000 in
theorem mv_X6_cellsToGo : tw_mV mX6_cellsToGo 1 := ⟨⟨gT_2 120 rfl rfl, gT_1 5 rfl rfl, ⟨by decide +kernel, by decide +kernel, by decide +kernel⟩, by decide⟩, gT_2 118 rfl rfl, gT_2 119 rfl rfl⟩
set_option maxRecDepth 10000 in
theorem mv_X6_sail : tw_mV mX6_sail 2 := ⟨⟨gT_2 172 rfl rfl, gT_1 5 rfl rfl, ⟨by decide +kernel, by decide +kernel, by decide +kernel⟩, by decide⟩, gT_2 170 rfl rfl, gT_2 171 rfl rfl⟩
set_option maxRecDepth 10000 in
theorem mv_X6_sailOn : tw_mV mX6_sailOn 2 := ⟨⟨gT_2 229 rfl rfl, gT_1 5 rfl rfl, ⟨by decide +kernel, by decide +kernel, by decide +kernel⟩, by decide⟩, gT_2 227 rfl rfl, gT_2 228 rfl rfl⟩
set_option maxRecDepth 10000 in
theorem mv_X6_move : tw_mV mX6_move 1 := ⟨⟨gT_2 185 rfl rfl, gT_1 5 rfl rfl, ⟨by decide +kernel, by decide +kernel, by decide +kernel⟩, by decide⟩, gT_2 184 rfl rfl, gT_s 3 rfl rfl⟩
set_option maxRecDepth 10000 in
theorem mv_X7_add : tw_mV mX7_add 1 := ⟨⟨gT_3 192 rfl rfl, gT_1 6 rfl rfl, ⟨by decide +kernel, by decide +kernel, by decide +kernel⟩, by decide⟩, gT_3 190 rfl rfl, gT_3 191 rfl rfl⟩
set_option maxRecDepth 10000 in
theorem mv_X7_readText : tw_mV mX7_readText 1 := ⟨⟨gT_3 213 rfl rfl, gT_1 6 rfl rfl, ⟨by decide +kernel, by decide +kernel, by decide +kernel⟩, by decide⟩, gT_3 211 rfl rfl, gT_3 212 rfl rfl⟩
set_option maxRecDepth 10000 in
theorem mv_X7_readItem : tw_mV mX7_readItem 1 := ⟨⟨gT_3 229 rfl rfl, gT_1 6 rfl rfl, ⟨by decide +kernel, by decide +kernel, by decide +kernel⟩, by decide⟩, gT_3 228 rfl rfl, gT_s 17 rfl rfl⟩
set_option maxRecDepth 10000 in
theorem mv_X7_kindOfWord : tw_mV mX7_kindOfWord 0 := ⟨⟨gT_3 233 rfl rfl, gT_1 6 rfl rfl, ⟨by decide +kernel, by decide +kernel, by decide +kernel⟩, by decide⟩, gT_3 232 rfl rfl, gT_s 18 rfl rfl⟩
set_option maxRecDepth 10000 in
theorem mv_X7_readLight : tw_mV mX7_readLight 2 := ⟨⟨gT_4 73 rfl rfl, gT_1 6 rfl rfl, ⟨by decide +kernel, by decide +kernel, by decide +kernel⟩, by decide⟩, gT_4 72 rfl rfl, gT_s 22 rfl rfl⟩
set_option maxRecDepth 10000 in
theorem mv_X7_readShip : tw_mV mX7_readShip 2 := ⟨⟨gT_4 56 rfl rfl, gT_1 6 rfl rfl, ⟨by decide +kernel, by decide +kernel, by decide +kernel⟩, by decide⟩, gT_4 55 rfl rfl, gT_s 20 rfl rfl⟩
set_option maxRecDepth 10000 in
theorem mv_X7_readPart : tw_mV mX7_readPart 2 := ⟨⟨gT_4 63 rfl rfl, gT_1 6 rfl rfl, ⟨by decide +kernel, by decide +kernel, by decide +kernel⟩, by decide⟩, gT_4 62 rfl rfl, gT_s 21 rfl rfl⟩
set_option maxRecDepth 10000 in
theorem mv_X7_isWord : tw_mV mX7_isWord 1 := ⟨⟨gT_3 238 rfl rfl, gT_1 6 rfl rfl, ⟨by decide +kernel, by decide +kernel, by decide +kernel⟩, by decide⟩, gT_3 237 rfl rfl, gT_s 19 rfl rfl⟩
set_option maxRecDepth 10000 in
theorem mv_X7_nextToken : tw_mV mX7_nextToken 0 := ⟨⟨gT_3 217 rfl rfl, gT_1 6 rfl rfl, ⟨by decide +kernel, by decide +kernel, by decide +kernel⟩, by decide⟩, gT_3 216 rfl rfl, gT_s 15 rfl rfl⟩
set_option maxRecDepth 10000 in
theorem ms_X7_typeOf : tw_mS mX7_typeOf 1 := ⟨⟨gT_3 220 rfl rfl, gT_1 6 rfl rfl, ⟨by decide +kernel, by decide +kernel, by decide +kernel⟩, by decide⟩, gT_3 219 rfl rfl⟩
set_option maxRecDepth 10000 in
theorem mv_X7_numberRead : tw_mV mX7_numberRead 0 := ⟨⟨gT_3 224 rfl rfl, gT_1 6 rfl rfl, ⟨by decide +kernel, by decide +kernel, by decide +kernel⟩, by decide⟩, gT_3 223 rfl rfl, gT_s 16 rfl rfl⟩
set_option maxRecDepth 10000 in
theorem mv_X8_set : tw_mV mX8_set 2 := ⟨⟨gT_2 41 rfl rfl, gT_1 1 rfl rfl, ⟨by decide +kernel, by decide +kernel, by decide +kernel⟩, by decide⟩, gT_2 39 rfl rfl, gT_2 40 rfl rfl⟩
set_option maxRecDepth 10000 in
theorem mv_X8_light : tw_mV mX8_light 1 := ⟨⟨gT_2 90 rfl rfl, gT_1 1 rfl rfl, ⟨by decide +kernel, by decide +kernel, by decide +kernel⟩, by decide⟩, gT_2 88 rfl rfl, gT_2 89 rfl rfl⟩
set_option maxRecDepth 10000 in
theorem mv_X8_ship : tw_mV mX8_ship 2 := ⟨⟨gT_2 94 rfl rfl, gT_1 1 rfl rfl, ⟨by decide +kernel, by decide +kernel, by decide +kernel⟩, by decide⟩, gT_2 92 rfl rfl, gT_2 93 rfl rfl⟩
set_option maxRecDepth 10000 in
theorem mv_X8_of : tw_mV mX8_of 2 := ⟨⟨gT_2 112 rfl rfl, gT_1 1 rfl rfl, ⟨by decide +kernel, by decide +kernel, by decide +kernel⟩, by decide⟩, gT_2 110 rfl rfl, gT_2 111 rfl rfl⟩
set_option maxRecDepth 10000 in
theorem mv_X8_change : tw_mV mX8_change 3 := ⟨⟨gT_2 137 rfl rfl, gT_1 1 rfl rfl, ⟨by decide +kernel, by decide +kernel, by decide +kernel⟩, by decide⟩, gT_2 135 rfl rfl, gT_2 136 rfl rfl⟩
set_option maxRecDepth 10000 in
theorem mv_X8_who : tw_mV mX8_who 1 := ⟨⟨gT_2 149 rfl rfl, gT_1 1 rfl rfl, ⟨by decide +kernel, by decide +kernel, by decide +kernel⟩, by decide⟩, gT_2 147 rfl rfl, gT_2 148 rfl rfl⟩
set_option maxRecDepth 10000 in
theorem mv_X8_go : tw_mV mX8_go 1 := ⟨⟨gT_2 157 rfl rfl, gT_1 1 rfl rfl, ⟨by decide +kernel, by decide +kernel, by decide +kernel⟩, by decide⟩, gT_2 155 rfl rfl, gT_2 156 rfl rfl⟩
set_option maxRecDepth 10000 in
theorem mv_X8_now : tw_mV mX8_now 1 := ⟨⟨gT_2 200 rfl rfl, gT_1 1 rfl rfl, ⟨by decide +kernel, by decide +kernel, by decide +kernel⟩, by decide⟩, gT_2 198 rfl rfl, gT_2 199 rfl rfl⟩
set_option maxRecDepth 10000 in
theorem mv_X8_ahead : tw_mV mX8_ahead 3 := ⟨⟨gT_2 221 rfl rfl, gT_1 1 rfl rfl, ⟨by decide +kernel, by decide +kernel, by decide +kernel⟩, by decide⟩, gT_2 219 rfl rfl, gT_2 220 rfl rfl⟩
set_option maxRecDepth 10000 in
theorem mv_X8_shows : tw_mV mX8_shows 2 := ⟨⟨gT_2 236 rfl rfl, gT_1 1 rfl rfl, ⟨by decide +kernel, by decide +kernel, by decide +kernel⟩, by decide⟩, gT_2 234 rfl rfl, gT_2 235 rfl rfl⟩
set_option maxRecDepth 10000 in
theorem mv_X8_strands : tw_mV mX8_strands 1 := ⟨⟨gT_3 2 rfl rfl, gT_1 1 rfl rfl, ⟨by decide +kernel, by decide +kernel, by decide +kernel⟩, by decide⟩, gT_3 0 rfl rfl, gT_3 1 rfl rfl⟩
set_option maxRecDepth 10000 in
theorem mv_X8_when : tw_mV mX8_when 2 := ⟨⟨gT_3 13 rfl rfl, gT_1 1 rfl rfl, ⟨by decide +kernel, by decide +kernel, by decide +kernel⟩, by decide⟩, gT_3 11 rfl rfl, gT_3 12 rfl rfl⟩
set_option maxRecDepth 10000 in
theorem mv_X8_meet : tw_mV mX8_meet 2 := ⟨⟨gT_3 17 rfl rfl, gT_1 1 rfl rfl, ⟨by decide +kernel, by decide +kernel, by decide +kernel⟩, by decide⟩, gT_3 15 rfl rfl, gT_3 16 rfl rfl⟩
set_option maxRecDepth 10000 in
theorem mv_X8_period : tw_mV mX8_period 0 := ⟨⟨gT_3 21 rfl rfl, gT_1 1 rfl rfl, ⟨by decide +kernel, by decide +kernel, by decide +kernel⟩, by decide⟩, gT_3 19 rfl rfl, gT_3 20 rfl rfl⟩
set_option maxRecDepth 10000 in
theorem mv_X8_lagFor : tw_mV mX8_lagFor 1 := ⟨⟨gT_3 25 rfl rfl, gT_1 1 rfl rfl, ⟨by decide +kernel, by decide +kernel, by decide +kernel⟩, by decide⟩, gT_3 23 rfl rfl, gT_3 24 rfl rfl⟩
set_option maxRecDepth 10000 in
theorem mv_X8_patternFor : tw_mV mX8_patternFor 1 := ⟨⟨gT_3 46 rfl rfl, gT_1 1 rfl rfl, ⟨by decide +kernel, by decide +kernel, by decide +kernel⟩, by decide⟩, gT_3 44 rfl rfl, gT_3 45 rfl rfl⟩
set_option maxRecDepth 10000 in
theorem mv_X8_kindFor : tw_mV mX8_kindFor 2 := ⟨⟨gT_3 74 rfl rfl, gT_1 1 rfl rfl, ⟨by decide +kernel, by decide +kernel, by decide +kernel⟩, by decide⟩, gT_3 72 rfl rfl, gT_3 73 rfl rfl⟩
set_option maxRecDepth 10000 in
theorem mv_X8_start : tw_mV mX8_start 2 := ⟨⟨gT_3 86 rfl rfl, gT_1 1 rfl rfl, ⟨by decide +kernel, by decide +kernel, by decide +kernel⟩, by decide⟩, gT_3 84 rfl rfl, gT_3 85 rfl rfl⟩
set_option maxRecDepth 10000 in
theorem mv_X8_speedFor : tw_mV mX8_speedFor 2 := ⟨⟨gT_3 90 rfl rfl, gT_1 1 rfl rfl, ⟨by decide +kernel, by decide +kernel, by decide +kernel⟩, by decide⟩, gT_3 88 rfl rfl, gT_3 89 rfl rfl⟩
set_option maxRecDepth 10000 in
theorem mv_X8_keepIn : tw_mV mX8_keepIn 2 := ⟨⟨gT_3 94 rfl rfl, gT_1 1 rfl rfl, ⟨by decide +kernel, by decide +kernel, by decide +kernel⟩, by decide⟩, gT_3 92 rfl rfl, gT_3 93 rfl rfl⟩
set_option maxRecDepth 10000 in
theorem mv_X8_lags : tw_mV mX8_lags 1 := ⟨⟨gT_3 106 rfl rfl, gT_1 1 rfl rfl, ⟨by decide +kernel, by decide +kernel, by decide +kernel⟩, by decide⟩, gT_3 104 rfl rfl, gT_3 105 rfl rfl⟩
set_option maxRecDepth 10000 in
theorem mv_X8_fits : tw_mV mX8_fits 1 := ⟨⟨gT_3 122 rfl rfl, gT_1 1 rfl rfl, ⟨by decide +kernel, by decide +kernel, by decide +kernel⟩, by decide⟩, gT_3 120 rfl rfl, gT_3 121 rfl rfl⟩
set_option maxRecDepth 10000 in
theorem mv_X8_pattern : tw_mV mX8_pattern 1 := ⟨⟨gT_3 147 rfl rfl, gT_1 1 rfl rfl, ⟨by decide +kernel, by decide +kernel, by decide +kernel⟩, by decide⟩, gT_3 145 rfl rfl, gT_3 146 rfl rfl⟩
set_option maxRecDepth 10000 in
theorem mv_X8_kinds : tw_mV mX8_kinds 2 := ⟨⟨gT_3 151 rfl rfl, gT_1 1 rfl rfl, ⟨by decide +kernel, by decide +kernel, by decide +kernel⟩, by decide⟩, gT_3 149 rfl rfl, gT_3 150 rfl rfl⟩
set_option maxRecDepth 10000 in
theorem mv_X8_nights : tw_mV mX8_nights 1 := ⟨⟨gT_3 159 rfl rfl, gT_1 1 rfl rfl, ⟨by decide +kernel, by decide +kernel, by decide +kernel⟩, by decide⟩, gT_3 157 rfl rfl, gT_3 158 rfl rfl⟩
set_option maxRecDepth 10000 in
theorem mv_X8_odds : tw_mV mX8_odds 2 := ⟨⟨gT_3 174 rfl rfl, gT_1 1 rfl rfl, ⟨by decide +kernel, by decide +kernel, by decide +kernel⟩, by decide⟩, gT_3 172 rfl rfl, gT_3 173 rfl rfl⟩
set_option maxRecDepth 10000 in
theorem mv_X8_seed : tw_mV mX8_seed 1 := ⟨⟨gT_3 184 rfl rfl, gT_1 1 rfl rfl, ⟨by decide +kernel, by decide +kernel, by decide +kernel⟩, by decide⟩, gT_3 182 rfl rfl, gT_3 183 rfl rfl⟩
set_option maxRecDepth 10000 in
theorem mv_X8_feed : tw_mV mX8_feed 2 := ⟨⟨gT_3 188 rfl rfl, gT_1 1 rfl rfl, ⟨by decide +kernel, by decide +kernel, by decide +kernel⟩, by decide⟩, gT_3 186 rfl rfl, gT_3 187 rfl rfl⟩
set_option maxRecDepth 10000 in
theorem mv_X8_wipe : tw_mV mX8_wipe 0 := ⟨⟨gT_3 196 rfl rfl, gT_1 1 rfl rfl, ⟨by decide +kernel, by decide +kernel, by decide +kernel⟩, by decide⟩, gT_3 194 rfl rfl, gT_3 195 rfl rfl⟩
set_option maxRecDepth 10000 in
theorem mv_X8_text : tw_mV mX8_text 0 := ⟨⟨gT_3 200 rfl rfl, gT_1 1 rfl rfl, ⟨by decide +kernel, by decide +kernel, by decide +kernel⟩, by decide⟩, gT_3 198 rfl rfl, gT_3 199 rfl rfl⟩
set_option maxRecDepth 10000 in
theorem mv_X8_hold : tw_mV mX8_hold 2 := ⟨⟨gT_4 82 rfl rfl, gT_1 1 rfl rfl, ⟨by decide +kernel, by decide +kernel, by decide +kernel⟩, by decide⟩, gT_4 80 rfl rfl, gT_4 81 rfl rfl⟩
set_option maxRecDepth 10000 in
theorem mv_X8_as : tw_mV mX8_as 2 := ⟨⟨gT_4 86 rfl rfl, gT_1 1 rfl rfl, ⟨by decide +kernel, by decide +kernel, by decide +kernel⟩, by decide⟩, gT_4 84 rfl rfl, gT_4 85 rfl rfl⟩
set_option maxRecDepth 10000 in
theorem mv_X8_sheet : tw_mV mX8_sheet 3 := ⟨⟨gT_4 96 rfl rfl, gT_1 1 rfl rfl, ⟨by decide +kernel, by decide +kernel, by decide +kernel⟩, by decide⟩, gT_4 94 rfl rfl, gT_4 95 rfl rfl⟩
set_option maxRecDepth 10000 in
theorem mv_X8_write : tw_mV mX8_write 3 := ⟨⟨gT_4 105 rfl rfl, gT_1 1 rfl rfl, ⟨by decide +kernel, by decide +kernel, by decide +kernel⟩, by decide⟩, gT_4 103 rfl rfl, gT_4 104 rfl rfl⟩
set_option maxRecDepth 10000 in
theorem mv_X8_copy : tw_mV mX8_copy 5 := ⟨⟨gT_4 113 rfl rfl, gT_1 1 rfl rfl, ⟨by decide +kernel, by decide +kernel, by decide +kernel⟩, by decide⟩, gT_4 111 rfl rfl, gT_4 112 rfl rfl⟩
set_option maxRecDepth 10000 in
theorem mv_X8_load : tw_mV mX8_load 1 := ⟨⟨gT_4 126 rfl rfl, gT_1 1 rfl rfl, ⟨by decide +kernel, by decide +kernel, by decide +kernel⟩, by decide⟩, gT_4 124 rfl rfl, gT_4 125 rfl rfl⟩
set_option maxRecDepth 10000 in
theorem mv_X8_judge : tw_mV mX8_judge 1 := ⟨⟨gT_4 130 rfl rfl, gT_1 1 rfl rfl, ⟨by decide +kernel, by decide +kernel, by decide +kernel⟩, by decide⟩, gT_4 128 rfl rfl, gT_4 129 rfl rfl⟩
set_option maxRecDepth 10000 in
theorem mv_X8_image : tw_mV mX8_image 0 := ⟨⟨gT_4 134 rfl rfl, gT_1 1 rfl rfl, ⟨by decide +kernel, by decide +kernel, by decide +kernel⟩, by decide⟩, gT_4 132 rfl rfl, gT_4 133 rfl rfl⟩
set_option maxRecDepth 10000 in
theorem mv_X8_undo : tw_mV mX8_undo 0 := ⟨⟨gT_4 138 rfl rfl, gT_1 1 rfl rfl, ⟨by decide +kernel, by decide +kernel, by decide +kernel⟩, by decide⟩, gT_4 136 rfl rfl, gT_4 137 rfl rfl⟩
set_option maxRecDepth 10000 in
theorem mv_X8_tear : tw_mV mX8_tear 0 := ⟨⟨gT_4 142 rfl rfl, gT_1 1 rfl rfl, ⟨by decide +kernel, by decide +kernel, by decide +kernel⟩, by decide⟩, gT_4 140 rfl rfl, gT_4 141 rfl rfl⟩
set_option maxRecDepth 10000 in
theorem mv_X8_count : tw_mV mX8_count 1 := ⟨⟨gT_4 146 rfl rfl, gT_1 1 rfl rfl, ⟨by decide +kernel, by decide +kernel, by decide +kernel⟩, by decide⟩, gT_4 144 rfl rfl, gT_4 145 rfl rfl⟩
set_option maxRecDepth 10000 in
theorem mv_X8_status : tw_mV mX8_status 1 := ⟨⟨gT_4 154 rfl rfl, gT_1 1 rfl rfl, ⟨by decide +kernel, by decide +kernel, by decide +kernel⟩, by decide⟩, gT_4 152 rfl rfl, gT_4 153 rfl rfl⟩
set_option maxRecDepth 10000 in
theorem mv_X8_found : tw_mV mX8_found 1 := ⟨⟨gT_2 53 rfl rfl, gT_1 1 rfl rfl, ⟨by decide +kernel, by decide +kernel, by decide +kernel⟩, by decide⟩, gT_2 52 rfl rfl, gT_s 0 rfl rfl⟩
set_option maxRecDepth 10000 in
theorem ms_X8_within : tw_mS mX8_within 3 := ⟨⟨gT_2 47 rfl rfl, gT_1 1 rfl rfl, ⟨by decide +kernel, by decide +kernel, by decide +kernel⟩, by decide⟩, gT_2 46 rfl rfl⟩
set_option maxRecDepth 10000 in
theorem mv_X8_isShip : tw_mV mX8_isShip 1 := ⟨⟨gT_2 116 rfl rfl, gT_1 1 rfl rfl, ⟨by decide +kernel, by decide +kernel, by decide +kernel⟩, by decide⟩, gT_2 115 rfl rfl, gT_s 1 rfl rfl⟩
set_option maxRecDepth 10000 in
theorem mv_X8_troubleWith : tw_mV mX8_troubleWith 1 := ⟨⟨gT_3 110 rfl rfl, gT_1 1 rfl rfl, ⟨by decide +kernel, by decide +kernel, by decide +kernel⟩, by decide⟩, gT_3 109 rfl rfl, gT_s 11 rfl rfl⟩
set_option maxRecDepth 10000 in
theorem mv_X8_troubleWithEither : tw_mV mX8_troubleWithEither 2 := ⟨⟨gT_4 117 rfl rfl, gT_1 1 rfl rfl, ⟨by decide +kernel, by decide +kernel, by decide +kernel⟩, by decide⟩, gT_4 116 rfl rfl, gT_s 23 rfl rfl⟩
set_option maxRecDepth 10000 in
theorem mv_X8_sailTick : tw_mV mX8_sailTick 2 := ⟨⟨gT_3 6 rfl rfl, gT_1 1 rfl rfl, ⟨by decide +kernel, by decide +kernel, by decide +kernel⟩, by decide⟩, gT_3 5 rfl rfl, gT_s 4 rfl rfl⟩
set_option maxRecDepth 10000 in
theorem mv_X8_strandedWith : tw_mV mX8_strandedWith 4 := ⟨⟨gT_3 82 rfl rfl, gT_1 1 rfl rfl, ⟨by decide +kernel, by decide +kernel, by decide +kernel⟩, by decide⟩, gT_3 81 rfl rfl, gT_s 8 rfl rfl⟩
set_option maxRecDepth 10000 in
theorem mv_X8_bestToBecome : tw_mV mX8_bestToBecome 4 := ⟨⟨gT_3 78 rfl rfl, gT_1 1 rfl rfl, ⟨by decide +kernel, by decide +kernel, by decide +kernel⟩, by decide⟩, gT_3 77 rfl rfl, gT_s 7 rfl rfl⟩
set_option maxRecDepth 10000 in
theorem mv_X8_fewestToKeep : tw_mV mX8_fewestToKeep 2 := ⟨⟨gT_3 98 rfl rfl, gT_1 1 rfl rfl, ⟨by decide +kernel, by decide +kernel, by decide +kernel⟩, by decide⟩, gT_3 97 rfl rfl, gT_s 9 rfl rfl⟩
set_option maxRecDepth 10000 in
theorem mv_X8_gainWithout : tw_mV mX8_gainWithout 2 := ⟨⟨gT_3 102 rfl rfl, gT_1 1 rfl rfl, ⟨by decide +kernel, by decide +kernel, by decide +kernel⟩, by decide⟩, gT_3 101 rfl rfl, gT_s 10 rfl rfl⟩
set_option maxRecDepth 10000 in
theorem ms_X8_secondShowsAs : tw_mS mX8_secondShowsAs 2 := ⟨⟨gT_3 118 rfl rfl, gT_1 1 rfl rfl, ⟨by decide +kernel, by decide +kernel, by decide +kernel⟩, by decide⟩, gT_3 117 rfl rfl⟩
set_option maxRecDepth 10000 in
theorem mv_X8_sailsAs : tw_mV mX8_sailsAs 2 := ⟨⟨gT_3 155 rfl rfl, gT_1 1 rfl rfl, ⟨by decide +kernel, by decide +kernel, by decide +kernel⟩, by decide⟩, gT_3 154 rfl rfl, gT_s 13 rfl rfl⟩
set_option maxRecDepth 10000 in
theorem ms_X8_isUnder : tw_mS mX8_isUnder 2 := ⟨⟨gT_4 89 rfl rfl, gT_1 1 rfl rfl, ⟨by decide +kernel, by decide +kernel, by decide +kernel⟩, by decide⟩, gT_4 88 rfl rfl⟩
set_option maxRecDepth 10000 in
theorem ms_X8_lowered : tw_mS mX8_lowered 2 := ⟨⟨gT_3 177 rfl rfl, gT_1 1 rfl rfl, ⟨by decide +kernel, by decide +kernel, by decide +kernel⟩, by decide⟩, gT_3 176 rfl rfl⟩
set_option maxRecDepth 10000 in
theorem ms_X8_power : tw_mS mX8_power 2 := ⟨⟨gT_3 180 rfl rfl, gT_1 1 rfl rfl, ⟨by decide +kernel, by decide +kernel, by decide +kernel⟩, by decide⟩, gT_3 179 rfl rfl⟩
set_option maxRecDepth 10000 in
theorem mv_X9_finding : tw_mV mX9_finding 1 := ⟨⟨gT_5 10 rfl rfl, gT_1 10 rfl rfl, ⟨by decide +kernel, by decide +kernel, by decide +kernel⟩, by decide⟩, gT_5 9 rfl rfl, gT_s 25 rfl rfl⟩
set_option maxRecDepth 10000 in
theorem ms_X9_within : tw_mS mX9_within 3 := ⟨⟨gT_4 237 rfl rfl, gT_1 10 rfl rfl, ⟨by decide +kernel, by decide +kernel, by decide +kernel⟩, by decide⟩, gT_4 236 rfl rfl⟩
set_option maxRecDepth 10000 in
theorem mv_X9_become : tw_mV mX9_become 2 := ⟨⟨gT_5 5 rfl rfl, gT_1 10 rfl rfl, ⟨by decide +kernel, by decide +kernel, by decide +kernel⟩, by decide⟩, gT_5 4 rfl rfl, gT_s 24 rfl rfl⟩
set_option maxRecDepth 10000 in
theorem ms_X9_copyRow : tw_mS mX9_copyRow 2 := ⟨⟨gT_5 142 rfl rfl, gT_1 10 rfl rfl, ⟨by decide +kernel, by decide +kernel, by decide +kernel⟩, by decide⟩, gT_5 141 rfl rfl⟩
set_option maxRecDepth 10000 in
theorem mv_X9_putBack : tw_mV mX9_putBack 1 := ⟨⟨gT_5 146 rfl rfl, gT_1 10 rfl rfl, ⟨by decide +kernel, by decide +kernel, by decide +kernel⟩, by decide⟩, gT_5 145 rfl rfl, gT_s 45 rfl rfl⟩
set_option maxRecDepth 10000 in
theorem mv_X9_orNone : tw_mV mX9_orNone 1 := ⟨⟨gT_5 158 rfl rfl, gT_1 10 rfl rfl, ⟨by decide +kernel, by decide +kernel, by decide +kernel⟩, by decide⟩, gT_5 157 rfl rfl, gT_s 46 rfl rfl⟩
set_option maxRecDepth 10000 in
theorem ms_X9_bits : tw_mS mX9_bits 1 := ⟨⟨gT_5 109 rfl rfl, gT_1 10 rfl rfl, ⟨by decide +kernel, by decide +kernel, by decide +kernel⟩, by decide⟩, gT_5 108 rfl rfl⟩
set_option maxRecDepth 10000 in
theorem ms_X9_hasBit : tw_mS mX9_hasBit 2 := ⟨⟨gT_5 213 rfl rfl, gT_1 10 rfl rfl, ⟨by decide +kernel, by decide +kernel, by decide +kernel⟩, by decide⟩, gT_5 212 rfl rfl⟩
set_option maxRecDepth 10000 in
theorem ms_X9_mostOf : tw_mS mX9_mostOf 1 := ⟨⟨gT_5 0 rfl rfl, gT_1 10 rfl rfl, ⟨by decide +kernel, by decide +kernel, by decide +kernel⟩, by decide⟩, gT_4 239 rfl rfl⟩
set_option maxRecDepth 10000 in
theorem mv_X9_set : tw_mV mX9_set 2 := ⟨⟨gT_4 234 rfl rfl, gT_1 10 rfl rfl, ⟨by decide +kernel, by decide +kernel, by decide +kernel⟩, by decide⟩, gT_4 232 rfl rfl, gT_4 233 rfl rfl⟩
set_option maxRecDepth 10000 in
theorem mv_X9_firstShows : tw_mV mX9_firstShows 0 := ⟨⟨gT_5 18 rfl rfl, gT_1 10 rfl rfl, ⟨by decide +kernel, by decide +kernel, by decide +kernel⟩, by decide⟩, gT_5 17 rfl rfl, gT_s 26 rfl rfl⟩
set_option maxRecDepth 10000 in
theorem mv_X9_pastThen : tw_mV mX9_pastThen 0 := ⟨⟨gT_5 26 rfl rfl, gT_1 10 rfl rfl, ⟨by decide +kernel, by decide +kernel, by decide +kernel⟩, by decide⟩, gT_5 25 rfl rfl, gT_s 28 rfl rfl⟩
set_option maxRecDepth 10000 in
theorem mv_X9_secondShows : tw_mV mX9_secondShows 0 := ⟨⟨gT_5 22 rfl rfl, gT_1 10 rfl rfl, ⟨by decide +kernel, by decide +kernel, by decide +kernel⟩, by decide⟩, gT_5 21 rfl rfl, gT_s 27 rfl rfl⟩
set_option maxRecDepth 10000 in
theorem mv_X9_light : tw_mV mX9_light 1 := ⟨⟨gT_5 14 rfl rfl, gT_1 10 rfl rfl, ⟨by decide +kernel, by decide +kernel, by decide +kernel⟩, by decide⟩, gT_5 12 rfl rfl, gT_5 13 rfl rfl⟩
set_option maxRecDepth 10000 in
theorem ms_X9_isKind : tw_mS mX9_isKind 1 := ⟨⟨gT_5 34 rfl rfl, gT_1 10 rfl rfl, ⟨by decide +kernel, by decide +kernel, by decide +kernel⟩, by decide⟩, gT_5 33 rfl rfl⟩
set_option maxRecDepth 10000 in
theorem ms_X9_isCell : tw_mS mX9_isCell 1 := ⟨⟨gT_5 37 rfl rfl, gT_1 10 rfl rfl, ⟨by decide +kernel, by decide +kernel, by decide +kernel⟩, by decide⟩, gT_5 36 rfl rfl⟩
set_option maxRecDepth 10000 in
theorem mv_X9_isShip : tw_mV mX9_isShip 1 := ⟨⟨gT_5 53 rfl rfl, gT_1 10 rfl rfl, ⟨by decide +kernel, by decide +kernel, by decide +kernel⟩, by decide⟩, gT_5 52 rfl rfl, gT_s 30 rfl rfl⟩
set_option maxRecDepth 10000 in
theorem ms_X9_shipAt : tw_mS mX9_shipAt 2 := ⟨⟨gT_5 45 rfl rfl, gT_1 10 rfl rfl, ⟨by decide +kernel, by decide +kernel, by decide +kernel⟩, by decide⟩, gT_5 44 rfl rfl⟩
set_option maxRecDepth 10000 in
theorem mv_X9_shipIs : tw_mV mX9_shipIs 2 := ⟨⟨gT_5 57 rfl rfl, gT_1 10 rfl rfl, ⟨by decide +kernel, by decide +kernel, by decide +kernel⟩, by decide⟩, gT_5 56 rfl rfl, gT_s 31 rfl rfl⟩
set_option maxRecDepth 10000 in
theorem mv_X9_comes : tw_mV mX9_comes 2 := ⟨⟨gT_5 42 rfl rfl, gT_1 10 rfl rfl, ⟨by decide +kernel, by decide +kernel, by decide +kernel⟩, by decide⟩, gT_5 41 rfl rfl, gT_s 29 rfl rfl⟩
set_option maxRecDepth 10000 in
theorem mv_X9_ship : tw_mV mX9_ship 2 := ⟨⟨gT_5 31 rfl rfl, gT_1 10 rfl rfl, ⟨by decide +kernel, by decide +kernel, by decide +kernel⟩, by decide⟩, gT_5 29 rfl rfl, gT_5 30 rfl rfl⟩
set_option maxRecDepth 10000 in
theorem mv_X9_near : tw_mV mX9_near 1 := ⟨⟨gT_5 73 rfl rfl, gT_1 10 rfl rfl, ⟨by decide +kernel, by decide +kernel, by decide +kernel⟩, by decide⟩, gT_5 72 rfl rfl, gT_s 35 rfl rfl⟩
set_option maxRecDepth 10000 in
theorem mv_X9_sees : tw_mV mX9_sees 2 := ⟨⟨gT_5 69 rfl rfl, gT_1 10 rfl rfl, ⟨by decide +kernel, by decide +kernel, by decide +kernel⟩, by decide⟩, gT_5 68 rfl rfl, gT_s 34 rfl rfl⟩
set_option maxRecDepth 10000 in
theorem mv_X9_goes : tw_mV mX9_goes 1 := ⟨⟨gT_5 61 rfl rfl, gT_1 10 rfl rfl, ⟨by decide +kernel, by decide +kernel, by decide +kernel⟩, by decide⟩, gT_5 60 rfl rfl, gT_s 32 rfl rfl⟩
set_option maxRecDepth 10000 in
theorem mv_X9_shownNow : tw_mV mX9_shownNow 0 := ⟨⟨gT_5 65 rfl rfl, gT_1 10 rfl rfl, ⟨by decide +kernel, by decide +kernel, by decide +kernel⟩, by decide⟩, gT_5 64 rfl rfl, gT_s 33 rfl rfl⟩
set_option maxRecDepth 10000 in
theorem mv_X9_of : tw_mV mX9_of 2 := ⟨⟨gT_5 49 rfl rfl, gT_1 10 rfl rfl, ⟨by decide +kernel, by decide +kernel, by decide +kernel⟩, by decide⟩, gT_5 47 rfl rfl, gT_5 48 rfl rfl⟩
set_option maxRecDepth 10000 in
theorem ms_X9_isField : tw_mS mX9_isField 2 := ⟨⟨gT_5 80 rfl rfl, gT_1 10 rfl rfl, ⟨by decide +kernel, by decide +kernel, by decide +kernel⟩, by decide⟩, gT_5 79 rfl rfl⟩
set_option maxRecDepth 10000 in
theorem mv_X9_change : tw_mV mX9_change 3 := ⟨⟨gT_5 77 rfl rfl, gT_1 10 rfl rfl, ⟨by decide +kernel, by decide +kernel, by decide +kernel⟩, by decide⟩, gT_5 75 rfl rfl, gT_5 76 rfl rfl⟩
set_option maxRecDepth 10000 in
theorem mv_X9_isOut : tw_mV mX9_isOut 1 := ⟨⟨gT_5 88 rfl rfl, gT_1 10 rfl rfl, ⟨by decide +kernel, by decide +kernel, by decide +kernel⟩, by decide⟩, gT_5 87 rfl rfl, gT_s 36 rfl rfl⟩
set_option maxRecDepth 10000 in
theorem mv_X9_who : tw_mV mX9_who 1 := ⟨⟨gT_5 84 rfl rfl, gT_1 10 rfl rfl, ⟨by decide +kernel, by decide +kernel, by decide +kernel⟩, by decide⟩, gT_5 82 rfl rfl, gT_5 83 rfl rfl⟩
set_option maxRecDepth 10000 in
theorem mv_X9_steers : tw_mV mX9_steers 2 := ⟨⟨gT_5 106 rfl rfl, gT_1 10 rfl rfl, ⟨by decide +kernel, by decide +kernel, by decide +kernel⟩, by decide⟩, gT_5 105 rfl rfl, gT_s 39 rfl rfl⟩
set_option maxRecDepth 10000 in
theorem mv_X9_tick : tw_mV mX9_tick 0 := ⟨⟨gT_5 102 rfl rfl, gT_1 10 rfl rfl, ⟨by decide +kernel, by decide +kernel, by decide +kernel⟩, by decide⟩, gT_5 101 rfl rfl, gT_s 38 rfl rfl⟩
set_option maxRecDepth 10000 in
theorem mv_X9_ticksGo : tw_mV mX9_ticksGo 1 := ⟨⟨gT_5 98 rfl rfl, gT_1 10 rfl rfl, ⟨by decide +kernel, by decide +kernel, by decide +kernel⟩, by decide⟩, gT_5 97 rfl rfl, gT_s 37 rfl rfl⟩
set_option maxRecDepth 10000 in
theorem mv_X9_sumOf : tw_mV mX9_sumOf 1 := ⟨⟨gT_5 115 rfl rfl, gT_1 10 rfl rfl, ⟨by decide +kernel, by decide +kernel, by decide +kernel⟩, by decide⟩, gT_5 114 rfl rfl, gT_s 40 rfl rfl⟩
set_option maxRecDepth 10000 in
theorem mv_X9_go : tw_mV mX9_go 1 := ⟨⟨gT_5 92 rfl rfl, gT_1 10 rfl rfl, ⟨by decide +kernel, by decide +kernel, by decide +kernel⟩, by decide⟩, gT_5 90 rfl rfl, gT_5 91 rfl rfl⟩
set_option maxRecDepth 10000 in
theorem mv_X9_inPort : tw_mV mX9_inPort 0 := ⟨⟨gT_5 123 rfl rfl, gT_1 10 rfl rfl, ⟨by decide +kernel, by decide +kernel, by decide +kernel⟩, by decide⟩, gT_5 122 rfl rfl, gT_s 41 rfl rfl⟩
set_option maxRecDepth 10000 in
theorem mv_X9_cellsTaken : tw_mV mX9_cellsTaken 0 := ⟨⟨gT_5 127 rfl rfl, gT_1 10 rfl rfl, ⟨by decide +kernel, by decide +kernel, by decide +kernel⟩, by decide⟩, gT_5 126 rfl rfl, gT_s 42 rfl rfl⟩
set_option maxRecDepth 10000 in
theorem mv_X9_nearest : tw_mV mX9_nearest 0 := ⟨⟨gT_5 131 rfl rfl, gT_1 10 rfl rfl, ⟨by decide +kernel, by decide +kernel, by decide +kernel⟩, by decide⟩, gT_5 130 rfl rfl, gT_s 43 rfl rfl⟩
set_option maxRecDepth 10000 in
theorem mv_X9_now : tw_mV mX9_now 1 := ⟨⟨gT_5 119 rfl rfl, gT_1 10 rfl rfl, ⟨by decide +kernel, by decide +kernel, by decide +kernel⟩, by decide⟩, gT_5 117 rfl rfl, gT_5 118 rfl rfl⟩
set_option maxRecDepth 10000 in
theorem mv_X9_behind : tw_mV mX9_behind 2 := ⟨⟨gT_5 139 rfl rfl, gT_1 10 rfl rfl, ⟨by decide +kernel, by decide +kernel, by decide +kernel⟩, by decide⟩, gT_5 138 rfl rfl, gT_s 44 rfl rfl⟩
set_option maxRecDepth 10000 in
theorem mv_X9_strandedBehind : tw_mV mX9_strandedBehind 1 := ⟨⟨gT_5 186 rfl rfl, gT_1 10 rfl rfl, ⟨by decide +kernel, by decide +kernel, by decide +kernel⟩, by decide⟩, gT_5 185 rfl rfl, gT_s 48 rfl rfl⟩
set_option maxRecDepth 10000 in
theorem mv_X9_ahead : tw_mV mX9_ahead 3 := ⟨⟨gT_5 135 rfl rfl, gT_1 10 rfl rfl, ⟨by decide +kernel, by decide +kernel, by decide +kernel⟩, by decide⟩, gT_5 133 rfl rfl, gT_5 134 rfl rfl⟩
set_option maxRecDepth 10000 in
theorem mv_X9_shows : tw_mV mX9_shows 2 := ⟨⟨gT_5 150 rfl rfl, gT_1 10 rfl rfl, ⟨by decide +kernel, by decide +kernel, by decide +kernel⟩, by decide⟩, gT_5 148 rfl rfl, gT_5 149 rfl rfl⟩
set_option maxRecDepth 10000 in
theorem mv_X9_strands : tw_mV mX9_strands 1 := ⟨⟨gT_5 154 rfl rfl, gT_1 10 rfl rfl, ⟨by decide +kernel, by decide +kernel, by decide +kernel⟩, by decide⟩, gT_5 152 rfl rfl, gT_5 153 rfl rfl⟩
set_option maxRecDepth 10000 in
theorem mv_X9_when : tw_mV mX9_when 2 := ⟨⟨gT_5 163 rfl rfl, gT_1 10 rfl rfl, ⟨by decide +kernel, by decide +kernel, by decide +kernel⟩, by decide⟩, gT_5 161 rfl rfl, gT_5 162 rfl rfl⟩
set_option maxRecDepth 10000 in
theorem mv_X9_meet : tw_mV mX9_meet 2 := ⟨⟨gT_5 167 rfl rfl, gT_1 10 rfl rfl, ⟨by decide +kernel, by decide +kernel, by decide +kernel⟩, by decide⟩, gT_5 165 rfl rfl, gT_5 166 rfl rfl⟩
set_option maxRecDepth 10000 in
theorem mv_X9_period : tw_mV mX9_period 0 := ⟨⟨gT_5 171 rfl rfl, gT_1 10 rfl rfl, ⟨by decide +kernel, by decide +kernel, by decide +kernel⟩, by decide⟩, gT_5 169 rfl rfl, gT_5 170 rfl rfl⟩
set_option maxRecDepth 10000 in
theorem ms_X9_isThought : tw_mS mX9_isThought 1 := ⟨⟨gT_5 178 rfl rfl, gT_1 10 rfl rfl, ⟨by decide +kernel, by decide +kernel, by decide +kernel⟩, by decide⟩, gT_5 177 rfl rfl⟩
set_option maxRecDepth 10000 in
theorem mv_X9_leastFor : tw_mV mX9_leastFor 4 := ⟨⟨gT_5 182 rfl rfl, gT_1 10 rfl rfl, ⟨by decide +kernel, by decide +kernel, by decide +kernel⟩, by decide⟩, gT_5 181 rfl rfl, gT_s 47 rfl rfl⟩
set_option maxRecDepth 10000 in
theorem mv_X9_lagFor : tw_mV mX9_lagFor 1 := ⟨⟨gT_5 175 rfl rfl, gT_1 10 rfl rfl, ⟨by decide +kernel, by decide +kernel, by decide +kernel⟩, by decide⟩, gT_5 173 rfl rfl, gT_5 174 rfl rfl⟩
set_option maxRecDepth 10000 in
theorem mv_X9_patternFor : tw_mV mX9_patternFor 1 := ⟨⟨gT_5 190 rfl rfl, gT_1 10 rfl rfl, ⟨by decide +kernel, by decide +kernel, by decide +kernel⟩, by decide⟩, gT_5 188 rfl rfl, gT_5 189 rfl rfl⟩
set_option maxRecDepth 10000 in
theorem mv_X9_kindFor : tw_mV mX9_kindFor 2 := ⟨⟨gT_5 194 rfl rfl, gT_1 10 rfl rfl, ⟨by decide +kernel, by decide +kernel, by decide +kernel⟩, by decide⟩, gT_5 192 rfl rfl, gT_5 193 rfl rfl⟩
set_option maxRecDepth 10000 in
theorem mv_X9_start : tw_mV mX9_start 2 := ⟨⟨gT_5 198 rfl rfl, gT_1 10 rfl rfl, ⟨by decide +kernel, by decide +kernel, by decide +kernel⟩, by decide⟩, gT_5 196 rfl rfl, gT_5 197 rfl rfl⟩
set_option maxRecDepth 10000 in
theorem mv_X9_speedFor : tw_mV mX9_speedFor 2 := ⟨⟨gT_5 202 rfl rfl, gT_1 10 rfl rfl, ⟨by decide +kernel, by decide +kernel, by decide +kernel⟩, by decide⟩, gT_5 200 rfl rfl, gT_5 201 rfl rfl⟩
set_option maxRecDepth 10000 in
theorem mv_X9_isKeptIn : tw_mV mX9_isKeptIn 3 := ⟨⟨gT_5 210 rfl rfl, gT_1 10 rfl rfl, ⟨by decide +kernel, by decide +kernel, by decide +kernel⟩, by decide⟩, gT_5 209 rfl rfl, gT_s 49 rfl rfl⟩
set_option maxRecDepth 10000 in
theorem mv_X9_keepIn : tw_mV mX9_keepIn 2 := ⟨⟨gT_5 206 rfl rfl, gT_1 10 rfl rfl, ⟨by decide +kernel, by decide +kernel, by decide +kernel⟩, by decide⟩, gT_5 204 rfl rfl, gT_5 205 rfl rfl⟩
set_option maxRecDepth 10000 in
theorem mv_X9_lacks : tw_mV mX9_lacks 2 := ⟨⟨gT_5 221 rfl rfl, gT_1 10 rfl rfl, ⟨by decide +kernel, by decide +kernel, by decide +kernel⟩, by decide⟩, gT_5 220 rfl rfl, gT_s 50 rfl rfl⟩
set_option maxRecDepth 10000 in
theorem mv_X9_isShownSo : tw_mV mX9_isShownSo 3 := ⟨⟨gT_5 229 rfl rfl, gT_1 10 rfl rfl, ⟨by decide +kernel, by decide +kernel, by decide +kernel⟩, by decide⟩, gT_5 228 rfl rfl, gT_s 51 rfl rfl⟩
set_option maxRecDepth 10000 in
theorem mv_X9_lags : tw_mV mX9_lags 1 := ⟨⟨gT_5 217 rfl rfl, gT_1 10 rfl rfl, ⟨by decide +kernel, by decide +kernel, by decide +kernel⟩, by decide⟩, gT_5 215 rfl rfl, gT_5 216 rfl rfl⟩
set_option maxRecDepth 10000 in
theorem mv_X9_fits : tw_mV mX9_fits 1 := ⟨⟨gT_5 233 rfl rfl, gT_1 10 rfl rfl, ⟨by decide +kernel, by decide +kernel, by decide +kernel⟩, by decide⟩, gT_5 231 rfl rfl, gT_5 232 rfl rfl⟩
set_option maxRecDepth 10000 in
theorem mv_X9_pattern : tw_mV mX9_pattern 1 := ⟨⟨gT_5 237 rfl rfl, gT_1 10 rfl rfl, ⟨by decide +kernel, by decide +kernel, by decide +kernel⟩, by decide⟩, gT_5 235 rfl rfl, gT_5 236 rfl rfl⟩
set_option maxRecDepth 10000 in
theorem mv_X9_isWaySo : tw_mV mX9_isWaySo 2 := ⟨⟨gT_6 5 rfl rfl, gT_1 10 rfl rfl, ⟨by decide +kernel, by decide +kernel, by decide +kernel⟩, by decide⟩, gT_6 4 rfl rfl, gT_s 52 rfl rfl⟩
set_option maxRecDepth 10000 in
theorem mv_X9_kinds : tw_mV mX9_kinds 2 := ⟨⟨gT_6 1 rfl rfl, gT_1 10 rfl rfl, ⟨by decide +kernel, by decide +kernel, by decide +kernel⟩, by decide⟩, gT_5 239 rfl rfl, gT_6 0 rfl rfl⟩
set_option maxRecDepth 10000 in
theorem mv_X9_drawn : tw_mV mX9_drawn 0 := ⟨⟨gT_6 13 rfl rfl, gT_1 10 rfl rfl, ⟨by decide +kernel, by decide +kernel, by decide +kernel⟩, by decide⟩, gT_6 12 rfl rfl, gT_s 53 rfl rfl⟩
set_option maxRecDepth 10000 in
theorem mv_X9_nights : tw_mV mX9_nights 1 := ⟨⟨gT_6 9 rfl rfl, gT_1 10 rfl rfl, ⟨by decide +kernel, by decide +kernel, by decide +kernel⟩, by decide⟩, gT_6 7 rfl rfl, gT_6 8 rfl rfl⟩
set_option maxRecDepth 10000 in
theorem mv_X9_odds : tw_mV mX9_odds 2 := ⟨⟨gT_6 18 rfl rfl, gT_1 10 rfl rfl, ⟨by decide +kernel, by decide +kernel, by decide +kernel⟩, by decide⟩, gT_6 16 rfl rfl, gT_6 17 rfl rfl⟩
set_option maxRecDepth 10000 in
theorem mv_X9_seed : tw_mV mX9_seed 1 := ⟨⟨gT_6 22 rfl rfl, gT_1 10 rfl rfl, ⟨by decide +kernel, by decide +kernel, by decide +kernel⟩, by decide⟩, gT_6 20 rfl rfl, gT_6 21 rfl rfl⟩
set_option maxRecDepth 10000 in
theorem mv_X9_feed : tw_mV mX9_feed 2 := ⟨⟨gT_6 26 rfl rfl, gT_1 10 rfl rfl, ⟨by decide +kernel, by decide +kernel, by decide +kernel⟩, by decide⟩, gT_6 24 rfl rfl, gT_6 25 rfl rfl⟩
set_option maxRecDepth 10000 in
theorem mv_X9_wipe : tw_mV mX9_wipe 0 := ⟨⟨gT_6 30 rfl rfl, gT_1 10 rfl rfl, ⟨by decide +kernel, by decide +kernel, by decide +kernel⟩, by decide⟩, gT_6 28 rfl rfl, gT_6 29 rfl rfl⟩
set_option maxRecDepth 10000 in
theorem mv_X9_byteAt : tw_mV mX9_byteAt 1 := ⟨⟨gT_6 42 rfl rfl, gT_1 10 rfl rfl, ⟨by decide +kernel, by decide +kernel, by decide +kernel⟩, by decide⟩, gT_6 41 rfl rfl, gT_s 55 rfl rfl⟩
set_option maxRecDepth 10000 in
theorem mv_X9_token : tw_mV mX9_token 0 := ⟨⟨gT_6 38 rfl rfl, gT_1 10 rfl rfl, ⟨by decide +kernel, by decide +kernel, by decide +kernel⟩, by decide⟩, gT_6 37 rfl rfl, gT_s 54 rfl rfl⟩
set_option maxRecDepth 10000 in
theorem mv_X9_isWord : tw_mV mX9_isWord 1 := ⟨⟨gT_6 50 rfl rfl, gT_1 10 rfl rfl, ⟨by decide +kernel, by decide +kernel, by decide +kernel⟩, by decide⟩, gT_6 49 rfl rfl, gT_s 57 rfl rfl⟩
set_option maxRecDepth 10000 in
theorem mv_X9_must : tw_mV mX9_must 1 := ⟨⟨gT_6 60 rfl rfl, gT_1 10 rfl rfl, ⟨by decide +kernel, by decide +kernel, by decide +kernel⟩, by decide⟩, gT_6 59 rfl rfl, gT_s 59 rfl rfl⟩
set_option maxRecDepth 10000 in
theorem mv_X9_number : tw_mV mX9_number 2 := ⟨⟨gT_6 69 rfl rfl, gT_1 10 rfl rfl, ⟨by decide +kernel, by decide +kernel, by decide +kernel⟩, by decide⟩, gT_6 68 rfl rfl, gT_s 61 rfl rfl⟩
set_option maxRecDepth 10000 in
theorem mv_X9_addItem : tw_mV mX9_addItem 5 := ⟨⟨gT_6 76 rfl rfl, gT_1 10 rfl rfl, ⟨by decide +kernel, by decide +kernel, by decide +kernel⟩, by decide⟩, gT_6 75 rfl rfl, gT_s 62 rfl rfl⟩
set_option maxRecDepth 10000 in
theorem mv_X9_takesWord : tw_mV mX9_takesWord 1 := ⟨⟨gT_6 65 rfl rfl, gT_1 10 rfl rfl, ⟨by decide +kernel, by decide +kernel, by decide +kernel⟩, by decide⟩, gT_6 64 rfl rfl, gT_s 60 rfl rfl⟩
set_option maxRecDepth 10000 in
theorem mv_X9_readShip : tw_mV mX9_readShip 1 := ⟨⟨gT_6 56 rfl rfl, gT_1 10 rfl rfl, ⟨by decide +kernel, by decide +kernel, by decide +kernel⟩, by decide⟩, gT_6 55 rfl rfl, gT_s 58 rfl rfl⟩
set_option maxRecDepth 10000 in
theorem mv_X9_readItem : tw_mV mX9_readItem 0 := ⟨⟨gT_6 46 rfl rfl, gT_1 10 rfl rfl, ⟨by decide +kernel, by decide +kernel, by decide +kernel⟩, by decide⟩, gT_6 45 rfl rfl, gT_s 56 rfl rfl⟩
set_option maxRecDepth 10000 in
theorem mv_X9_isToldSo : tw_mV mX9_isToldSo 1 := ⟨⟨gT_6 83 rfl rfl, gT_1 10 rfl rfl, ⟨by decide +kernel, by decide +kernel, by decide +kernel⟩, by decide⟩, gT_6 82 rfl rfl, gT_s 63 rfl rfl⟩
set_option maxRecDepth 10000 in
theorem mv_X9_text : tw_mV mX9_text 0 := ⟨⟨gT_6 34 rfl rfl, gT_1 10 rfl rfl, ⟨by decide +kernel, by decide +kernel, by decide +kernel⟩, by decide⟩, gT_6 32 rfl rfl, gT_6 33 rfl rfl⟩
set_option maxRecDepth 10000 in
theorem ms_X9_isSpot : tw_mS mX9_isSpot 1 := ⟨⟨gT_6 90 rfl rfl, gT_1 10 rfl rfl, ⟨by decide +kernel, by decide +kernel, by decide +kernel⟩, by decide⟩, gT_6 89 rfl rfl⟩
set_option maxRecDepth 10000 in
theorem mv_X9_hold : tw_mV mX9_hold 2 := ⟨⟨gT_6 87 rfl rfl, gT_1 10 rfl rfl, ⟨by decide +kernel, by decide +kernel, by decide +kernel⟩, by decide⟩, gT_6 85 rfl rfl, gT_6 86 rfl rfl⟩
set_option maxRecDepth 10000 in
theorem mv_X9_as : tw_mV mX9_as 2 := ⟨⟨gT_6 94 rfl rfl, gT_1 10 rfl rfl, ⟨by decide +kernel, by decide +kernel, by decide +kernel⟩, by decide⟩, gT_6 92 rfl rfl, gT_6 93 rfl rfl⟩
set_option maxRecDepth 10000 in
theorem ms_X9_isSheet : tw_mS mX9_isSheet 1 := ⟨⟨gT_5 224 rfl rfl, gT_1 10 rfl rfl, ⟨by decide +kernel, by decide +kernel, by decide +kernel⟩, by decide⟩, gT_5 223 rfl rfl⟩
set_option maxRecDepth 10000 in
theorem ms_X9_cutTo : tw_mS mX9_cutTo 2 := ⟨⟨gT_6 113 rfl rfl, gT_1 10 rfl rfl, ⟨by decide +kernel, by decide +kernel, by decide +kernel⟩, by decide⟩, gT_6 112 rfl rfl⟩
set_option maxRecDepth 10000 in
theorem mv_X9_sheet : tw_mV mX9_sheet 3 := ⟨⟨gT_6 105 rfl rfl, gT_1 10 rfl rfl, ⟨by decide +kernel, by decide +kernel, by decide +kernel⟩, by decide⟩, gT_6 103 rfl rfl, gT_6 104 rfl rfl⟩
set_option maxRecDepth 10000 in
theorem mv_X9_write : tw_mV mX9_write 3 := ⟨⟨gT_6 110 rfl rfl, gT_1 10 rfl rfl, ⟨by decide +kernel, by decide +kernel, by decide +kernel⟩, by decide⟩, gT_6 108 rfl rfl, gT_6 109 rfl rfl⟩
set_option maxRecDepth 10000 in
theorem mv_X9_copy : tw_mV mX9_copy 5 := ⟨⟨gT_6 117 rfl rfl, gT_1 10 rfl rfl, ⟨by decide +kernel, by decide +kernel, by decide +kernel⟩, by decide⟩, gT_6 115 rfl rfl, gT_6 116 rfl rfl⟩
set_option maxRecDepth 10000 in
theorem ms_X9_above : tw_mS mX9_above 1 := ⟨⟨gT_6 100 rfl rfl, gT_1 10 rfl rfl, ⟨by decide +kernel, by decide +kernel, by decide +kernel⟩, by decide⟩, gT_6 99 rfl rfl⟩
set_option maxRecDepth 10000 in
theorem ms_X9_isUnder : tw_mS mX9_isUnder 2 := ⟨⟨gT_6 97 rfl rfl, gT_1 10 rfl rfl, ⟨by decide +kernel, by decide +kernel, by decide +kernel⟩, by decide⟩, gT_6 96 rfl rfl⟩
set_option maxRecDepth 10000 in
theorem mv_X9_load : tw_mV mX9_load 1 := ⟨⟨gT_6 121 rfl rfl, gT_1 10 rfl rfl, ⟨by decide +kernel, by decide +kernel, by decide +kernel⟩, by decide⟩, gT_6 119 rfl rfl, gT_6 120 rfl rfl⟩
set_option maxRecDepth 10000 in
theorem mv_X9_judge : tw_mV mX9_judge 1 := ⟨⟨gT_6 125 rfl rfl, gT_1 10 rfl rfl, ⟨by decide +kernel, by decide +kernel, by decide +kernel⟩, by decide⟩, gT_6 123 rfl rfl, gT_6 124 rfl rfl⟩
set_option maxRecDepth 10000 in
theorem mv_X9_image : tw_mV mX9_image 0 := ⟨⟨gT_6 129 rfl rfl, gT_1 10 rfl rfl, ⟨by decide +kernel, by decide +kernel, by decide +kernel⟩, by decide⟩, gT_6 127 rfl rfl, gT_6 128 rfl rfl⟩
set_option maxRecDepth 10000 in
theorem mv_X9_undo : tw_mV mX9_undo 0 := ⟨⟨gT_6 133 rfl rfl, gT_1 10 rfl rfl, ⟨by decide +kernel, by decide +kernel, by decide +kernel⟩, by decide⟩, gT_6 131 rfl rfl, gT_6 132 rfl rfl⟩
set_option maxRecDepth 10000 in
theorem mv_X9_tear : tw_mV mX9_tear 0 := ⟨⟨gT_6 137 rfl rfl, gT_1 10 rfl rfl, ⟨by decide +kernel, by decide +kernel, by decide +kernel⟩, by decide⟩, gT_6 135 rfl rfl, gT_6 136 rfl rfl⟩
set_option maxRecDepth 10000 in
theorem mv_X9_count : tw_mV mX9_count 1 := ⟨⟨gT_6 141 rfl rfl, gT_1 10 rfl rfl, ⟨by decide +kernel, by decide +kernel, by decide +kernel⟩, by decide⟩, gT_6 139 rfl rfl, gT_6 140 rfl rfl⟩
set_option maxRecDepth 10000 in
theorem mv_X9_status : tw_mV mX9_status 1 := ⟨⟨gT_6 145 rfl rfl, gT_1 10 rfl rfl, ⟨by decide +kernel, by decide +kernel, by decide +kernel⟩, by decide⟩, gT_6 143 rfl rfl, gT_6 144 rfl rfl⟩
set_option maxRecDepth 10000 in
theorem ms_J6_bitCount_0f7a4 : tw_mS mJ6_bitCount_0f7a4 1 := ⟨⟨gT_2 176 rfl rfl, gT_1 12 rfl rfl, ⟨by decide +kernel, by decide +kernel, by decide +kernel⟩, by decide⟩, gT_2 175 rfl rfl⟩
set_option maxRecDepth 10000 in
theorem ms_J9_max_7cf53 : tw_mS mJ9_max_7cf53 2 := ⟨⟨gT_2 188 rfl rfl, gT_1 11 rfl rfl, ⟨by decide +kernel, by decide +kernel, by decide +kernel⟩, by decide⟩, gT_2 187 rfl rfl⟩
set_option maxRecDepth 10000 in
theorem ms_J9_min_7cf53 : tw_mS mJ9_min_7cf53 2 := ⟨⟨gT_2 70 rfl rfl, gT_1 11 rfl rfl, ⟨by decide +kernel, by decide +kernel, by decide +kernel⟩, by decide⟩, gT_2 69 rfl rfl⟩
set_option maxRecDepth 10000 in
theorem mv_J0_length_8abf5 : tw_mV mJ0_length_8abf5 0 := ⟨⟨gT_4 2 rfl rfl, gT_1 14 rfl rfl, ⟨by decide +kernel, by decide +kernel, by decide +kernel⟩, by decide⟩, gT_4 0 rfl rfl, gT_4 1 rfl rfl⟩
set_option maxRecDepth 10000 in
theorem mv_J0_charAt_5068e : tw_mV mJ0_charAt_5068e 1 := ⟨⟨gT_4 12 rfl rfl, gT_1 14 rfl rfl, ⟨by decide +kernel, by decide +kernel, by decide +kernel⟩, by decide⟩, gT_4 10 rfl rfl, gT_4 11 rfl rfl⟩
set_option maxRecDepth 10000 in
theorem mv_J0_coder_7d493 : tw_mV mJ0_coder_7d493 0 := ⟨⟨gT_4 6 rfl rfl, gT_1 14 rfl rfl, ⟨by decide +kernel, by decide +kernel, by decide +kernel⟩, by decide⟩, gT_4 4 rfl rfl, gT_4 5 rfl rfl⟩
set_option maxRecDepth 10000 in
theorem mv_J0_isLatin1_aae02 : tw_mV mJ0_isLatin1_aae02 0 := ⟨⟨gT_4 16 rfl rfl, gT_1 14 rfl rfl, ⟨by decide +kernel, by decide +kernel, by decide +kernel⟩, by decide⟩, gT_4 14 rfl rfl, gT_4 15 rfl rfl⟩
set_option maxRecDepth 10000 in
theorem ms_J0_checkIndex_df160 : tw_mS mJ0_checkIndex_df160 2 := ⟨⟨gT_4 22 rfl rfl, gT_1 14 rfl rfl, ⟨by decide +kernel, by decide +kernel, by decide +kernel⟩, by decide⟩, gT_4 21 rfl rfl⟩
set_option maxRecDepth 10000 in
theorem ms_J1_charAt_3b067 : tw_mS mJ1_charAt_3b067 2 := ⟨⟨gT_4 19 rfl rfl, gT_1 15 rfl rfl, ⟨by decide +kernel, by decide +kernel, by decide +kernel⟩, by decide⟩, gT_4 18 rfl rfl⟩
set_option maxRecDepth 10000 in
theorem ms_J2_getChar_3b067 : tw_mS mJ2_getChar_3b067 2 := ⟨⟨gT_4 40 rfl rfl, gT_1 17 rfl rfl, ⟨by decide +kernel, by decide +kernel, by decide +kernel⟩, by decide⟩, gT_4 39 rfl rfl⟩
set_option maxRecDepth 10000 in
theorem ms_J2_length_9d52b : tw_mS mJ2_length_9d52b 1 := ⟨⟨gT_4 36 rfl rfl, gT_1 17 rfl rfl, ⟨by decide +kernel, by decide +kernel, by decide +kernel⟩, by decide⟩, gT_4 35 rfl rfl⟩
set_option maxRecDepth 10000 in
theorem ms_J2_charAt_3b067 : tw_mS mJ2_charAt_3b067 2 := ⟨⟨gT_4 30 rfl rfl, gT_1 17 rfl rfl, ⟨by decide +kernel, by decide +kernel, by decide +kernel⟩, by decide⟩, gT_4 29 rfl rfl⟩
set_option maxRecDepth 10000 in
theorem ms_J2_checkIndex_2214a : tw_mS mJ2_checkIndex_2214a 2 := ⟨⟨gT_4 33 rfl rfl, gT_1 17 rfl rfl, ⟨by decide +kernel, by decide +kernel, by decide +kernel⟩, by decide⟩, gT_4 32 rfl rfl⟩
set_option maxRecDepth 10000 in
theorem ms_J3_checkIndex_8e157 : tw_mS mJ3_checkIndex_8e157 3 := ⟨⟨gT_4 27 rfl rfl, gT_1 16 rfl rfl, ⟨by decide +kernel, by decide +kernel, by decide +kernel⟩, by decide⟩, gT_4 26 rfl rfl⟩
set_option maxRecDepth 10000 in
theorem ml_RX8_78 : Cond.methodLink RX8 78 mX2_mayBecome.1 ∈ tw_gT := gT_2 42 rfl rfl
set_option maxRecDepth 10000 in
theorem ml_RX8_83 : Cond.methodLink RX8 83 mX8_found.1 ∈ tw_gT := gT_2 50 rfl rfl
set_option maxRecDepth 10000 in
theorem ml_RX8_97 : Cond.methodLink RX8 97 mX8_within.1 ∈ tw_gT := gT_2 54 rfl rfl
set_option maxRecDepth 10000 in
theorem ml_RX8_90 : Cond.methodLink RX8 90 mX2_told.1 ∈ tw_gT := gT_2 55 rfl rfl
set_option maxRecDepth 10000 in
theorem ml_RX2_32 : Cond.methodLink RX2 32 mX2_firstAhead.1 ∈ tw_gT := gT_2 59 rfl rfl
set_option maxRecDepth 10000 in
theorem ml_RX2_46 : Cond.methodLink RX2 46 mX2_tickAhead.1 ∈ tw_gT := gT_2 63 rfl rfl
set_option maxRecDepth 10000 in
theorem ml_RX2_40 : Cond.methodLink RX2 40 Lib.Math.min.name ∈ tw_gT := gT_2 68 rfl rfl
set_option maxRecDepth 10000 in
theorem ml_RX2_36 : Cond.methodLink RX2 36 mX2_secondAhead.1 ∈ tw_gT := gT_2 71 rfl rfl
set_option maxRecDepth 10000 in
theorem ml_RX2_49 : Cond.methodLink RX2 49 mX2_shownAhead.1 ∈ tw_gT := gT_2 75 rfl rfl
set_option maxRecDepth 10000 in
theorem ml_RX2_52 : Cond.methodLink RX2 52 mX2_ticksToSource.1 ∈ tw_gT := gT_2 79 rfl rfl
set_option maxRecDepth 10000 in
theorem ml_RX8_93 : Cond.methodLink RX8 93 mX2_become.1 ∈ tw_gT := gT_2 83 rfl rfl
set_option maxRecDepth 10000 in
theorem ml_RX8_105 : Cond.methodLink RX8 105 mX1_isFull.1 ∈ tw_gT := gT_2 95 rfl rfl
set_option maxRecDepth 10000 in
theorem ml_RX8_112 : Cond.methodLink RX8 112 mX1_launch.1 ∈ tw_gT := gT_2 100 rfl rfl
set_option maxRecDepth 10000 in
theorem ml_RX1_26 : Cond.methodLink RX1 26 mX1_isFull.1 ∈ tw_gT := gT_2 104 rfl rfl
set_option maxRecDepth 10000 in
theorem ml_RX1_30 : Cond.methodLink RX1 30 mX6_renew.1 ∈ tw_gT := gT_2 105 rfl rfl
set_option maxRecDepth 10000 in
theorem ml_RX8_119 : Cond.methodLink RX8 119 mX8_isShip.1 ∈ tw_gT := gT_2 113 rfl rfl
set_option maxRecDepth 10000 in
theorem ml_RX8_130 : Cond.methodLink RX8 130 mX6_cellsToGo.1 ∈ tw_gT := gT_2 117 rfl rfl
set_option maxRecDepth 10000 in
theorem ml_RX8_133 : Cond.methodLink RX8 133 mX2_shownAhead.1 ∈ tw_gT := gT_2 121 rfl rfl
set_option maxRecDepth 10000 in
theorem ml_RX8_136 : Cond.methodLink RX8 136 mX6_seen.1 ∈ tw_gT := gT_2 122 rfl rfl
set_option maxRecDepth 10000 in
theorem ml_RX6_37 : Cond.methodLink RX6 37 mX6_lightsNear.1 ∈ tw_gT := gT_2 126 rfl rfl
set_option maxRecDepth 10000 in
theorem ml_RX8_140 : Cond.methodLink RX8 140 mX6_told.1 ∈ tw_gT := gT_2 130 rfl rfl
set_option maxRecDepth 10000 in
theorem ml_RX8_141 : Cond.methodLink RX8 141 mX6_mayBecome.1 ∈ tw_gT := gT_2 138 rfl rfl
set_option maxRecDepth 10000 in
theorem ml_RX8_142 : Cond.methodLink RX8 142 mX6_become.1 ∈ tw_gT := gT_2 142 rfl rfl
set_option maxRecDepth 10000 in
theorem ml_RX8_143 : Cond.methodLink RX8 143 mX1_shipsAt.1 ∈ tw_gT := gT_2 150 rfl rfl
set_option maxRecDepth 10000 in
theorem ml_RX8_148 : Cond.methodLink RX8 148 mX4_passTick.1 ∈ tw_gT := gT_2 160 rfl rfl
set_option maxRecDepth 10000 in
theorem ml_RX4_46 : Cond.methodLink RX4 46 mX2_shownAhead.1 ∈ tw_gT := gT_2 164 rfl rfl
set_option maxRecDepth 10000 in
theorem ml_RX4_53 : Cond.methodLink RX4 53 mX1_sail.1 ∈ tw_gT := gT_2 165 rfl rfl
set_option maxRecDepth 10000 in
theorem ml_RX1_34 : Cond.methodLink RX1 34 mX6_sail.1 ∈ tw_gT := gT_2 169 rfl rfl
set_option maxRecDepth 10000 in
theorem ml_RX6_41 : Cond.methodLink RX6 41 mX6_seen.1 ∈ tw_gT := gT_2 173 rfl rfl
set_option maxRecDepth 10000 in
theorem ml_RX6_45 : Cond.methodLink RX6 45 mJ6_bitCount_0f7a4.1 ∈ tw_gT := gT_2 174 rfl rfl
set_option maxRecDepth 10000 in
theorem ml_RX6_51 : Cond.methodLink RX6 51 Lib.Math.min.name ∈ tw_gT := gT_2 180 rfl rfl
set_option maxRecDepth 10000 in
theorem ml_RX6_56 : Cond.methodLink RX6 56 mX6_cellsToGo.1 ∈ tw_gT := gT_2 181 rfl rfl
set_option maxRecDepth 10000 in
theorem ml_RX6_59 : Cond.methodLink RX6 59 mX6_move.1 ∈ tw_gT := gT_2 182 rfl rfl
set_option maxRecDepth 10000 in
theorem ml_RX6_75 : Cond.methodLink RX6 75 Lib.Math.max.name ∈ tw_gT := gT_2 186 rfl rfl
set_option maxRecDepth 10000 in
theorem ml_RX4_57 : Cond.methodLink RX4 57 mX2_passTick.1 ∈ tw_gT := gT_2 189 rfl rfl
set_option maxRecDepth 10000 in
theorem ml_RX8_151 : Cond.methodLink RX8 151 mX1_strandedOfAll.1 ∈ tw_gT := gT_2 193 rfl rfl
set_option maxRecDepth 10000 in
theorem ml_RX8_155 : Cond.methodLink RX8 155 mX1_sawOfAll.1 ∈ tw_gT := gT_2 201 rfl rfl
set_option maxRecDepth 10000 in
theorem ml_RX8_158 : Cond.methodLink RX8 158 mX1_shipsInPort.1 ∈ tw_gT := gT_2 205 rfl rfl
set_option maxRecDepth 10000 in
theorem ml_RX8_161 : Cond.methodLink RX8 161 mX1_cellsTaken.1 ∈ tw_gT := gT_2 209 rfl rfl
set_option maxRecDepth 10000 in
theorem ml_RX8_164 : Cond.methodLink RX8 164 mX1_nearestToFirst.1 ∈ tw_gT := gT_2 213 rfl rfl
set_option maxRecDepth 10000 in
theorem ml_RX8_170 : Cond.methodLink RX8 170 mJ6_bitCount_0f7a4.1 ∈ tw_gT := gT_2 217 rfl rfl
set_option maxRecDepth 10000 in
theorem ml_RX8_175 : Cond.methodLink RX8 175 mX6_take.1 ∈ tw_gT := gT_2 222 rfl rfl
set_option maxRecDepth 10000 in
theorem ml_RX8_179 : Cond.methodLink RX8 179 mX6_sailOn.1 ∈ tw_gT := gT_2 226 rfl rfl
set_option maxRecDepth 10000 in
theorem ml_RX6_63 : Cond.methodLink RX6 63 mX2_shownAhead.1 ∈ tw_gT := gT_2 230 rfl rfl
set_option maxRecDepth 10000 in
theorem ml_RX6_68 : Cond.methodLink RX6 68 mX2_tickAhead.1 ∈ tw_gT := gT_2 231 rfl rfl
set_option maxRecDepth 10000 in
theorem ml_RX6_71 : Cond.methodLink RX6 71 mX6_sail.1 ∈ tw_gT := gT_2 232 rfl rfl
set_option maxRecDepth 10000 in
theorem ml_RX8_183 : Cond.methodLink RX8 183 mX2_firstAhead.1 ∈ tw_gT := gT_2 237 rfl rfl
set_option maxRecDepth 10000 in
theorem ml_RX8_186 : Cond.methodLink RX8 186 mX2_secondAhead.1 ∈ tw_gT := gT_2 238 rfl rfl
set_option maxRecDepth 10000 in
theorem ml_RX8_192 : Cond.methodLink RX8 192 mX8_sailTick.1 ∈ tw_gT := gT_3 3 rfl rfl
set_option maxRecDepth 10000 in
theorem ml_RX8_323 : Cond.methodLink RX8 323 mX2_tickAhead.1 ∈ tw_gT := gT_3 7 rfl rfl
set_option maxRecDepth 10000 in
theorem ml_RX8_326 : Cond.methodLink RX8 326 mX6_sail.1 ∈ tw_gT := gT_3 8 rfl rfl
set_option maxRecDepth 10000 in
theorem ml_RX8_203 : Cond.methodLink RX8 203 mX2_take.1 ∈ tw_gT := gT_3 26 rfl rfl
set_option maxRecDepth 10000 in
theorem ml_RX8_210 : Cond.methodLink RX8 210 mX1_take.1 ∈ tw_gT := gT_3 31 rfl rfl
set_option maxRecDepth 10000 in
theorem ml_RX1_22 : Cond.methodLink RX1 22 mX6_take.1 ∈ tw_gT := gT_3 35 rfl rfl
set_option maxRecDepth 10000 in
theorem ml_RX8_213 : Cond.methodLink RX8 213 mX1_sailOn.1 ∈ tw_gT := gT_3 36 rfl rfl
set_option maxRecDepth 10000 in
theorem ml_RX1_37 : Cond.methodLink RX1 37 mX2_shownAhead.1 ∈ tw_gT := gT_3 40 rfl rfl
set_option maxRecDepth 10000 in
theorem ml_RX1_43 : Cond.methodLink RX1 43 mX2_tickAhead.1 ∈ tw_gT := gT_3 41 rfl rfl
set_option maxRecDepth 10000 in
theorem ml_RX1_46 : Cond.methodLink RX1 46 mX1_sail.1 ∈ tw_gT := gT_3 42 rfl rfl
set_option maxRecDepth 10000 in
theorem ml_RX8_214 : Cond.methodLink RX8 214 mX3_leastPattern.1 ∈ tw_gT := gT_3 47 rfl rfl
set_option maxRecDepth 10000 in
theorem ml_RX3_28 : Cond.methodLink RX3 28 mX2_take.1 ∈ tw_gT := gT_3 51 rfl rfl
set_option maxRecDepth 10000 in
theorem ml_RX3_36 : Cond.methodLink RX3 36 mX1_take.1 ∈ tw_gT := gT_3 52 rfl rfl
set_option maxRecDepth 10000 in
theorem ml_RX3_39 : Cond.methodLink RX3 39 Lib.Math.min.name ∈ tw_gT := gT_3 53 rfl rfl
set_option maxRecDepth 10000 in
theorem ml_RX3_56 : Cond.methodLink RX3 56 mX3_tryFrom.1 ∈ tw_gT := gT_3 55 rfl rfl
set_option maxRecDepth 10000 in
theorem ml_RX3_60 : Cond.methodLink RX3 60 mX1_strandedOfAll.1 ∈ tw_gT := gT_3 59 rfl rfl
set_option maxRecDepth 10000 in
theorem ml_RX3_64 : Cond.methodLink RX3 64 mX3_tryBit.1 ∈ tw_gT := gT_3 60 rfl rfl
set_option maxRecDepth 10000 in
theorem ml_RX3_74 : Cond.methodLink RX3 74 mX2_shownAhead.1 ∈ tw_gT := gT_3 64 rfl rfl
set_option maxRecDepth 10000 in
theorem ml_RX3_77 : Cond.methodLink RX3 77 mX2_tickAhead.1 ∈ tw_gT := gT_3 65 rfl rfl
set_option maxRecDepth 10000 in
theorem ml_RX3_80 : Cond.methodLink RX3 80 mX1_sail.1 ∈ tw_gT := gT_3 66 rfl rfl
set_option maxRecDepth 10000 in
theorem ml_RX3_67 : Cond.methodLink RX3 67 mX2_bitAhead.1 ∈ tw_gT := gT_3 67 rfl rfl
set_option maxRecDepth 10000 in
theorem ml_RX8_218 : Cond.methodLink RX8 218 mX8_bestToBecome.1 ∈ tw_gT := gT_3 75 rfl rfl
set_option maxRecDepth 10000 in
theorem ml_RX8_222 : Cond.methodLink RX8 222 mX8_strandedWith.1 ∈ tw_gT := gT_3 79 rfl rfl
set_option maxRecDepth 10000 in
theorem ml_RX8_225 : Cond.methodLink RX8 225 mX8_fewestToKeep.1 ∈ tw_gT := gT_3 95 rfl rfl
set_option maxRecDepth 10000 in
theorem ml_RX8_329 : Cond.methodLink RX8 329 mX8_gainWithout.1 ∈ tw_gT := gT_3 99 rfl rfl
set_option maxRecDepth 10000 in
theorem ml_RX8_228 : Cond.methodLink RX8 228 mX8_troubleWith.1 ∈ tw_gT := gT_3 107 rfl rfl
set_option maxRecDepth 10000 in
theorem ml_RX8_320 : Cond.methodLink RX8 320 mX5_isMissing.1 ∈ tw_gT := gT_3 111 rfl rfl
set_option maxRecDepth 10000 in
theorem ml_RX8_231 : Cond.methodLink RX8 231 mX8_secondShowsAs.1 ∈ tw_gT := gT_3 116 rfl rfl
set_option maxRecDepth 10000 in
theorem ml_RX8_235 : Cond.methodLink RX8 235 mX0_hear.1 ∈ tw_gT := gT_3 123 rfl rfl
set_option maxRecDepth 10000 in
theorem ml_RX0_31 : Cond.methodLink RX0 31 mX0_hearOne.1 ∈ tw_gT := gT_3 127 rfl rfl
set_option maxRecDepth 10000 in
theorem ml_RX0_35 : Cond.methodLink RX0 35 mX2_ticksToSource.1 ∈ tw_gT := gT_3 131 rfl rfl
set_option maxRecDepth 10000 in
theorem ml_RX0_45 : Cond.methodLink RX0 45 mX2_secondAhead.1 ∈ tw_gT := gT_3 133 rfl rfl
set_option maxRecDepth 10000 in
theorem ml_RX0_48 : Cond.methodLink RX0 48 mX2_bitAhead.1 ∈ tw_gT := gT_3 134 rfl rfl
set_option maxRecDepth 10000 in
theorem ml_RX8_239 : Cond.methodLink RX8 239 mX0_canBeMet.1 ∈ tw_gT := gT_3 135 rfl rfl
set_option maxRecDepth 10000 in
theorem ml_RX8_242 : Cond.methodLink RX8 242 mX0_freeBits.1 ∈ tw_gT := gT_3 139 rfl rfl
set_option maxRecDepth 10000 in
theorem ml_RX0_51 : Cond.methodLink RX0 51 mJ6_bitCount_0f7a4.1 ∈ tw_gT := gT_3 143 rfl rfl
set_option maxRecDepth 10000 in
theorem ml_RX8_251 : Cond.methodLink RX8 251 mX8_sailsAs.1 ∈ tw_gT := gT_3 152 rfl rfl
set_option maxRecDepth 10000 in
theorem ml_RX8_255 : Cond.methodLink RX8 255 mX4_passNight.1 ∈ tw_gT := gT_3 160 rfl rfl
set_option maxRecDepth 10000 in
theorem ml_RX4_63 : Cond.methodLink RX4 63 mX4_draw.1 ∈ tw_gT := gT_3 164 rfl rfl
set_option maxRecDepth 10000 in
theorem ml_RX4_79 : Cond.methodLink RX4 79 Lib.Math.min.name ∈ tw_gT := gT_3 169 rfl rfl
set_option maxRecDepth 10000 in
theorem ml_RX4_85 : Cond.methodLink RX4 85 mX4_passTick.1 ∈ tw_gT := gT_3 170 rfl rfl
set_option maxRecDepth 10000 in
theorem ml_RX8_258 : Cond.methodLink RX8 258 mX8_lowered.1 ∈ tw_gT := gT_3 175 rfl rfl
set_option maxRecDepth 10000 in
theorem ml_RX8_261 : Cond.methodLink RX8 261 mX8_power.1 ∈ tw_gT := gT_3 178 rfl rfl
set_option maxRecDepth 10000 in
theorem ml_RX8_269 : Cond.methodLink RX8 269 mX7_add.1 ∈ tw_gT := gT_3 189 rfl rfl
set_option maxRecDepth 10000 in
theorem ml_RX8_273 : Cond.methodLink RX8 273 mX4_take.1 ∈ tw_gT := gT_3 201 rfl rfl
set_option maxRecDepth 10000 in
theorem ml_RX4_33 : Cond.methodLink RX4 33 mX2_take.1 ∈ tw_gT := gT_3 205 rfl rfl
set_option maxRecDepth 10000 in
theorem ml_RX4_37 : Cond.methodLink RX4 37 mX1_take.1 ∈ tw_gT := gT_3 206 rfl rfl
set_option maxRecDepth 10000 in
theorem ml_RX4_40 : Cond.methodLink RX4 40 arraycopyName ∈ tw_gT := gT_3 207 rfl rfl
set_option maxRecDepth 10000 in
theorem ml_RX8_276 : Cond.methodLink RX8 276 mX7_readText.1 ∈ tw_gT := gT_3 210 rfl rfl
set_option maxRecDepth 10000 in
theorem ml_RX7_22 : Cond.methodLink RX7 22 mX7_nextToken.1 ∈ tw_gT := gT_3 214 rfl rfl
set_option maxRecDepth 10000 in
theorem ml_RX7_138 : Cond.methodLink RX7 138 mX7_typeOf.1 ∈ tw_gT := gT_3 218 rfl rfl
set_option maxRecDepth 10000 in
theorem ml_RX7_142 : Cond.methodLink RX7 142 mX7_numberRead.1 ∈ tw_gT := gT_3 221 rfl rfl
set_option maxRecDepth 10000 in
theorem ml_RX7_145 : Cond.methodLink RX7 145 Lib.Math.min.name ∈ tw_gT := gT_3 225 rfl rfl
set_option maxRecDepth 10000 in
theorem ml_RX7_25 : Cond.methodLink RX7 25 mX7_readItem.1 ∈ tw_gT := gT_3 226 rfl rfl
set_option maxRecDepth 10000 in
theorem ml_RX7_35 : Cond.methodLink RX7 35 mX7_kindOfWord.1 ∈ tw_gT := gT_3 230 rfl rfl
set_option maxRecDepth 10000 in
theorem ml_RX7_51 : Cond.methodLink RX7 51 mX7_isWord.1 ∈ tw_gT := gT_3 235 rfl rfl
set_option maxRecDepth 10000 in
theorem ml_RX7_129 : Cond.methodLink RX7 129 mJ0_length_8abf5.1 ∈ tw_gT := gT_3 239 rfl rfl
set_option maxRecDepth 10000 in
theorem ml_RJ0_335 : Cond.methodLink RJ0 335 mJ0_coder_7d493.1 ∈ tw_gT := gT_4 3 rfl rfl
set_option maxRecDepth 10000 in
theorem ml_RX7_134 : Cond.methodLink RX7 134 mJ0_charAt_5068e.1 ∈ tw_gT := gT_4 9 rfl rfl
set_option maxRecDepth 10000 in
theorem ml_RJ0_492 : Cond.methodLink RJ0 492 mJ0_isLatin1_aae02.1 ∈ tw_gT := gT_4 13 rfl rfl
set_option maxRecDepth 10000 in
theorem ml_RJ0_495 : Cond.methodLink RJ0 495 mJ1_charAt_3b067.1 ∈ tw_gT := gT_4 17 rfl rfl
set_option maxRecDepth 10000 in
theorem ml_RJ1_9 : Cond.methodLink RJ1 9 mJ0_checkIndex_df160.1 ∈ tw_gT := gT_4 20 rfl rfl
set_option maxRecDepth 10000 in
theorem ml_RJ0_1059 : Cond.methodLink RJ0 1059 mJ3_checkIndex_8e157.1 ∈ tw_gT := gT_4 25 rfl rfl
set_option maxRecDepth 10000 in
theorem ml_RJ0_498 : Cond.methodLink RJ0 498 mJ2_charAt_3b067.1 ∈ tw_gT := gT_4 28 rfl rfl
set_option maxRecDepth 10000 in
theorem ml_RJ2_67 : Cond.methodLink RJ2 67 mJ2_checkIndex_2214a.1 ∈ tw_gT := gT_4 31 rfl rfl
set_option maxRecDepth 10000 in
theorem ml_RJ2_48 : Cond.methodLink RJ2 48 mJ2_length_9d52b.1 ∈ tw_gT := gT_4 34 rfl rfl
set_option maxRecDepth 10000 in
theorem ml_RJ2_414 : Cond.methodLink RJ2 414 mJ0_checkIndex_df160.1 ∈ tw_gT := gT_4 37 rfl rfl
set_option maxRecDepth 10000 in
theorem ml_RJ2_71 : Cond.methodLink RJ2 71 mJ2_getChar_3b067.1 ∈ tw_gT := gT_4 38 rfl rfl
set_option maxRecDepth 10000 in
theorem ml_RX7_45 : Cond.methodLink RX7 45 mX7_readShip.1 ∈ tw_gT := gT_4 53 rfl rfl
set_option maxRecDepth 10000 in
theorem ml_RX7_94 : Cond.methodLink RX7 94 mX1_isFull.1 ∈ tw_gT := gT_4 57 rfl rfl
set_option maxRecDepth 10000 in
theorem ml_RX7_105 : Cond.methodLink RX7 105 mX1_launch.1 ∈ tw_gT := gT_4 58 rfl rfl
set_option maxRecDepth 10000 in
theorem ml_RX7_110 : Cond.methodLink RX7 110 mX7_readPart.1 ∈ tw_gT := gT_4 60 rfl rfl
set_option maxRecDepth 10000 in
theorem ml_RX7_127 : Cond.methodLink RX7 127 mX6_mayBecome.1 ∈ tw_gT := gT_4 64 rfl rfl
set_option maxRecDepth 10000 in
theorem ml_RX7_128 : Cond.methodLink RX7 128 mX6_become.1 ∈ tw_gT := gT_4 65 rfl rfl
set_option maxRecDepth 10000 in
theorem ml_RX7_59 : Cond.methodLink RX7 59 mX7_readLight.1 ∈ tw_gT := gT_4 70 rfl rfl
set_option maxRecDepth 10000 in
theorem ml_RX7_84 : Cond.methodLink RX7 84 mX2_mayBecome.1 ∈ tw_gT := gT_4 74 rfl rfl
set_option maxRecDepth 10000 in
theorem ml_RX7_90 : Cond.methodLink RX7 90 mX2_become.1 ∈ tw_gT := gT_4 75 rfl rfl
set_option maxRecDepth 10000 in
theorem ml_RX8_284 : Cond.methodLink RX8 284 mX8_isUnder.1 ∈ tw_gT := gT_4 87 rfl rfl
set_option maxRecDepth 10000 in
theorem ml_RX8_289 : Cond.methodLink RX8 289 mX5_renew.1 ∈ tw_gT := gT_4 98 rfl rfl
set_option maxRecDepth 10000 in
theorem ml_RX8_293 : Cond.methodLink RX8 293 mX5_put.1 ∈ tw_gT := gT_4 106 rfl rfl
set_option maxRecDepth 10000 in
theorem ml_RX8_296 : Cond.methodLink RX8 296 mX8_troubleWithEither.1 ∈ tw_gT := gT_4 114 rfl rfl
set_option maxRecDepth 10000 in
theorem ml_RX8_302 : Cond.methodLink RX8 302 mX5_hasPart.1 ∈ tw_gT := gT_4 118 rfl rfl
set_option maxRecDepth 10000 in
theorem ml_RX8_308 : Cond.methodLink RX8 308 arraycopyName ∈ tw_gT := gT_4 122 rfl rfl
set_option maxRecDepth 10000 in
theorem ml_RX8_317 : Cond.methodLink RX8 317 mX4_spotsTaken.1 ∈ tw_gT := gT_4 147 rfl rfl
set_option maxRecDepth 10000 in
theorem ml_RX9_71 : Cond.methodLink RX9 71 mX9_within.1 ∈ tw_gT := gT_4 235 rfl rfl
set_option maxRecDepth 10000 in
theorem ml_RX9_75 : Cond.methodLink RX9 75 mX9_mostOf.1 ∈ tw_gT := gT_4 238 rfl rfl
set_option maxRecDepth 10000 in
theorem ml_RX9_78 : Cond.methodLink RX9 78 mX9_become.1 ∈ tw_gT := gT_5 2 rfl rfl
set_option maxRecDepth 10000 in
theorem ml_RX9_66 : Cond.methodLink RX9 66 mX9_finding.1 ∈ tw_gT := gT_5 7 rfl rfl
set_option maxRecDepth 10000 in
theorem ml_RX9_82 : Cond.methodLink RX9 82 mX9_firstShows.1 ∈ tw_gT := gT_5 15 rfl rfl
set_option maxRecDepth 10000 in
theorem ml_RX9_90 : Cond.methodLink RX9 90 mX9_secondShows.1 ∈ tw_gT := gT_5 19 rfl rfl
set_option maxRecDepth 10000 in
theorem ml_RX9_87 : Cond.methodLink RX9 87 mX9_pastThen.1 ∈ tw_gT := gT_5 23 rfl rfl
set_option maxRecDepth 10000 in
theorem ml_RX9_96 : Cond.methodLink RX9 96 mX9_isKind.1 ∈ tw_gT := gT_5 32 rfl rfl
set_option maxRecDepth 10000 in
theorem ml_RX9_100 : Cond.methodLink RX9 100 mX9_isCell.1 ∈ tw_gT := gT_5 35 rfl rfl
set_option maxRecDepth 10000 in
theorem ml_RX9_104 : Cond.methodLink RX9 104 mX9_comes.1 ∈ tw_gT := gT_5 39 rfl rfl
set_option maxRecDepth 10000 in
theorem ml_RX9_93 : Cond.methodLink RX9 93 mX9_shipAt.1 ∈ tw_gT := gT_5 43 rfl rfl
set_option maxRecDepth 10000 in
theorem ml_RX9_113 : Cond.methodLink RX9 113 mX9_isShip.1 ∈ tw_gT := gT_5 50 rfl rfl
set_option maxRecDepth 10000 in
theorem ml_RX9_107 : Cond.methodLink RX9 107 mX9_shipIs.1 ∈ tw_gT := gT_5 54 rfl rfl
set_option maxRecDepth 10000 in
theorem ml_RX9_116 : Cond.methodLink RX9 116 mX9_goes.1 ∈ tw_gT := gT_5 58 rfl rfl
set_option maxRecDepth 10000 in
theorem ml_RX9_119 : Cond.methodLink RX9 119 mX9_shownNow.1 ∈ tw_gT := gT_5 62 rfl rfl
set_option maxRecDepth 10000 in
theorem ml_RX9_122 : Cond.methodLink RX9 122 mX9_sees.1 ∈ tw_gT := gT_5 66 rfl rfl
set_option maxRecDepth 10000 in
theorem ml_RX9_110 : Cond.methodLink RX9 110 mX9_near.1 ∈ tw_gT := gT_5 70 rfl rfl
set_option maxRecDepth 10000 in
theorem ml_RX9_125 : Cond.methodLink RX9 125 mX9_isField.1 ∈ tw_gT := gT_5 78 rfl rfl
set_option maxRecDepth 10000 in
theorem ml_RX9_129 : Cond.methodLink RX9 129 mX9_isOut.1 ∈ tw_gT := gT_5 85 rfl rfl
set_option maxRecDepth 10000 in
theorem ml_RX9_152 : Cond.methodLink RX9 152 mX9_ticksGo.1 ∈ tw_gT := gT_5 95 rfl rfl
set_option maxRecDepth 10000 in
theorem ml_RX9_147 : Cond.methodLink RX9 147 mX9_tick.1 ∈ tw_gT := gT_5 99 rfl rfl
set_option maxRecDepth 10000 in
theorem ml_RX9_143 : Cond.methodLink RX9 143 mX9_steers.1 ∈ tw_gT := gT_5 103 rfl rfl
set_option maxRecDepth 10000 in
theorem ml_RX9_132 : Cond.methodLink RX9 132 mX9_bits.1 ∈ tw_gT := gT_5 107 rfl rfl
set_option maxRecDepth 10000 in
theorem ml_RX9_135 : Cond.methodLink RX9 135 Lib.Math.min.name ∈ tw_gT := gT_5 110 rfl rfl
set_option maxRecDepth 10000 in
theorem ml_RX9_140 : Cond.methodLink RX9 140 Lib.Math.max.name ∈ tw_gT := gT_5 111 rfl rfl
set_option maxRecDepth 10000 in
theorem ml_RX9_156 : Cond.methodLink RX9 156 mX9_sumOf.1 ∈ tw_gT := gT_5 112 rfl rfl
set_option maxRecDepth 10000 in
theorem ml_RX9_159 : Cond.methodLink RX9 159 mX9_inPort.1 ∈ tw_gT := gT_5 120 rfl rfl
set_option maxRecDepth 10000 in
theorem ml_RX9_162 : Cond.methodLink RX9 162 mX9_cellsTaken.1 ∈ tw_gT := gT_5 124 rfl rfl
set_option maxRecDepth 10000 in
theorem ml_RX9_165 : Cond.methodLink RX9 165 mX9_nearest.1 ∈ tw_gT := gT_5 128 rfl rfl
set_option maxRecDepth 10000 in
theorem ml_RX9_171 : Cond.methodLink RX9 171 mX9_behind.1 ∈ tw_gT := gT_5 136 rfl rfl
set_option maxRecDepth 10000 in
theorem ml_RX9_61 : Cond.methodLink RX9 61 mX9_copyRow.1 ∈ tw_gT := gT_5 140 rfl rfl
set_option maxRecDepth 10000 in
theorem ml_RX9_168 : Cond.methodLink RX9 168 mX9_putBack.1 ∈ tw_gT := gT_5 143 rfl rfl
set_option maxRecDepth 10000 in
theorem ml_RX9_174 : Cond.methodLink RX9 174 mX9_orNone.1 ∈ tw_gT := gT_5 155 rfl rfl
set_option maxRecDepth 10000 in
theorem ml_RX9_180 : Cond.methodLink RX9 180 mX9_isThought.1 ∈ tw_gT := gT_5 176 rfl rfl
set_option maxRecDepth 10000 in
theorem ml_RX9_183 : Cond.methodLink RX9 183 mX9_leastFor.1 ∈ tw_gT := gT_5 179 rfl rfl
set_option maxRecDepth 10000 in
theorem ml_RX9_177 : Cond.methodLink RX9 177 mX9_strandedBehind.1 ∈ tw_gT := gT_5 183 rfl rfl
set_option maxRecDepth 10000 in
theorem ml_RX9_190 : Cond.methodLink RX9 190 mX9_isKeptIn.1 ∈ tw_gT := gT_5 207 rfl rfl
set_option maxRecDepth 10000 in
theorem ml_RX9_187 : Cond.methodLink RX9 187 mX9_hasBit.1 ∈ tw_gT := gT_5 211 rfl rfl
set_option maxRecDepth 10000 in
theorem ml_RX9_197 : Cond.methodLink RX9 197 mX9_lacks.1 ∈ tw_gT := gT_5 218 rfl rfl
set_option maxRecDepth 10000 in
theorem ml_RX9_193 : Cond.methodLink RX9 193 mX9_isSheet.1 ∈ tw_gT := gT_5 222 rfl rfl
set_option maxRecDepth 10000 in
theorem ml_RX9_201 : Cond.methodLink RX9 201 mX9_isShownSo.1 ∈ tw_gT := gT_5 226 rfl rfl
set_option maxRecDepth 10000 in
theorem ml_RX9_204 : Cond.methodLink RX9 204 mX9_isWaySo.1 ∈ tw_gT := gT_6 2 rfl rfl
set_option maxRecDepth 10000 in
theorem ml_RX9_208 : Cond.methodLink RX9 208 mX9_drawn.1 ∈ tw_gT := gT_6 10 rfl rfl
set_option maxRecDepth 10000 in
theorem ml_RX9_241 : Cond.methodLink RX9 241 mX9_token.1 ∈ tw_gT := gT_6 35 rfl rfl
set_option maxRecDepth 10000 in
theorem ml_RX9_221 : Cond.methodLink RX9 221 mX9_byteAt.1 ∈ tw_gT := gT_6 39 rfl rfl
set_option maxRecDepth 10000 in
theorem ml_RX9_285 : Cond.methodLink RX9 285 mX9_readItem.1 ∈ tw_gT := gT_6 43 rfl rfl
set_option maxRecDepth 10000 in
theorem ml_RX9_251 : Cond.methodLink RX9 251 mX9_isWord.1 ∈ tw_gT := gT_6 47 rfl rfl
set_option maxRecDepth 10000 in
theorem ml_RX9_230 : Cond.methodLink RX9 230 mJ0_length_8abf5.1 ∈ tw_gT := gT_6 51 rfl rfl
set_option maxRecDepth 10000 in
theorem ml_RX9_233 : Cond.methodLink RX9 233 mJ0_charAt_5068e.1 ∈ tw_gT := gT_6 52 rfl rfl
set_option maxRecDepth 10000 in
theorem ml_RX9_276 : Cond.methodLink RX9 276 mX9_readShip.1 ∈ tw_gT := gT_6 53 rfl rfl
set_option maxRecDepth 10000 in
theorem ml_RX9_244 : Cond.methodLink RX9 244 mX9_must.1 ∈ tw_gT := gT_6 57 rfl rfl
set_option maxRecDepth 10000 in
theorem ml_RX9_260 : Cond.methodLink RX9 260 mX9_takesWord.1 ∈ tw_gT := gT_6 62 rfl rfl
set_option maxRecDepth 10000 in
theorem ml_RX9_263 : Cond.methodLink RX9 263 mX9_number.1 ∈ tw_gT := gT_6 66 rfl rfl
set_option maxRecDepth 10000 in
theorem ml_RX9_272 : Cond.methodLink RX9 272 mX9_addItem.1 ∈ tw_gT := gT_6 73 rfl rfl
set_option maxRecDepth 10000 in
theorem ml_RX9_288 : Cond.methodLink RX9 288 mX9_isToldSo.1 ∈ tw_gT := gT_6 80 rfl rfl
set_option maxRecDepth 10000 in
theorem ml_RX9_291 : Cond.methodLink RX9 291 mX9_isSpot.1 ∈ tw_gT := gT_6 88 rfl rfl
set_option maxRecDepth 10000 in
theorem ml_RX9_294 : Cond.methodLink RX9 294 mX9_isUnder.1 ∈ tw_gT := gT_6 95 rfl rfl
set_option maxRecDepth 10000 in
theorem ml_RX9_302 : Cond.methodLink RX9 302 mX9_above.1 ∈ tw_gT := gT_6 98 rfl rfl
set_option maxRecDepth 10000 in
theorem ml_RX9_299 : Cond.methodLink RX9 299 mX9_cutTo.1 ∈ tw_gT := gT_6 111 rfl rfl
set_option maxRecDepth 10000 in
theorem nl_RX2_27 : (RX2, 27, mX8_within.1) ∈ tw_nest := List.mem_of_getElem? (i := 8) (by decide +kernel)
set_option maxRecDepth 10000 in
theorem nl_RX6_33 : (RX6, 33, mX8_within.1) ∈ tw_nest := List.mem_of_getElem? (i := 9) (by decide +kernel)
set_option maxRecDepth 10000 in
theorem nl_RX0_41 : (RX0, 41, mX8_within.1) ∈ tw_nest := List.mem_of_getElem? (i := 10) (by decide +kernel)
set_option maxRecDepth 10000 in
theorem kc_RX2_31 : Cond.constant RX2 31 16777215 ∈ tw_gT := gT_2 48 rfl rfl
set_option maxRecDepth 10000 in
theorem kc_RX8_82 : Cond.constant RX8 82 (-1000001) ∈ tw_gT := gT_2 49 rfl rfl
set_option maxRecDepth 10000 in
theorem kc_RX2_39 : Cond.constant RX2 39 99999 ∈ tw_gT := gT_2 67 rfl rfl
set_option maxRecDepth 10000 in
theorem kc_RX8_111 : Cond.constant RX8 111 (-1000002) ∈ tw_gT := gT_2 99 rfl rfl
set_option maxRecDepth 10000 in
theorem kc_RX8_146 : Cond.constant RX8 146 99999 ∈ tw_gT := gT_2 158 rfl rfl
set_option maxRecDepth 10000 in
theorem kc_RX8_147 : Cond.constant RX8 147 (-1000005) ∈ tw_gT := gT_2 159 rfl rfl
set_option maxRecDepth 10000 in
theorem kc_RJ6_265 : Cond.constant RJ6 265 1431655765 ∈ tw_gT := gT_2 177 rfl rfl
set_option maxRecDepth 10000 in
theorem kc_RJ6_266 : Cond.constant RJ6 266 858993459 ∈ tw_gT := gT_2 178 rfl rfl
set_option maxRecDepth 10000 in
theorem kc_RJ6_267 : Cond.constant RJ6 267 252645135 ∈ tw_gT := gT_2 179 rfl rfl
set_option maxRecDepth 10000 in
theorem kc_RX8_196 : Cond.constant RX8 196 (-1000004) ∈ tw_gT := gT_3 9 rfl rfl
set_option maxRecDepth 10000 in
theorem kc_RX8_206 : Cond.constant RX8 206 79993 ∈ tw_gT := gT_3 30 rfl rfl
set_option maxRecDepth 10000 in
theorem kc_RX3_52 : Cond.constant RX3 52 79993 ∈ tw_gT := gT_3 54 rfl rfl
set_option maxRecDepth 10000 in
theorem kc_RX8_283 : Cond.constant RX8 283 (-1000006) ∈ tw_gT := gT_3 115 rfl rfl
set_option maxRecDepth 10000 in
theorem kc_RX4_86 : Cond.constant RX4 86 1103515245 ∈ tw_gT := gT_3 168 rfl rfl
set_option maxRecDepth 10000 in
theorem kc_RX8_287 : Cond.constant RX8 287 (-1000003) ∈ tw_gT := gT_4 92 rfl rfl
set_option maxRecDepth 10000 in
theorem kc_RX8_288 : Cond.constant RX8 288 (-1000007) ∈ tw_gT := gT_4 97 rfl rfl
set_option maxRecDepth 10000 in
theorem kc_RX9_70 : Cond.constant RX9 70 16777215 ∈ tw_gT := gT_5 1 rfl rfl
set_option maxRecDepth 10000 in
theorem kc_RX9_60 : Cond.constant RX9 60 (-1000001) ∈ tw_gT := gT_5 6 rfl rfl
set_option maxRecDepth 10000 in
theorem kc_RX9_86 : Cond.constant RX9 86 16777216 ∈ tw_gT := gT_5 27 rfl rfl
set_option maxRecDepth 10000 in
theorem kc_RX9_103 : Cond.constant RX9 103 (-1000002) ∈ tw_gT := gT_5 38 rfl rfl
set_option maxRecDepth 10000 in
theorem kc_RX9_150 : Cond.constant RX9 150 99999 ∈ tw_gT := gT_5 93 rfl rfl
set_option maxRecDepth 10000 in
theorem kc_RX9_151 : Cond.constant RX9 151 (-1000005) ∈ tw_gT := gT_5 94 rfl rfl
set_option maxRecDepth 10000 in
theorem kc_RX9_65 : Cond.constant RX9 65 (-1000004) ∈ tw_gT := gT_5 159 rfl rfl
set_option maxRecDepth 10000 in
theorem kc_RX9_196 : Cond.constant RX9 196 (-1000006) ∈ tw_gT := gT_5 225 rfl rfl
set_option maxRecDepth 10000 in
theorem kc_RX9_207 : Cond.constant RX9 207 1103515245 ∈ tw_gT := gT_6 14 rfl rfl
set_option maxRecDepth 10000 in
theorem kc_RX9_297 : Cond.constant RX9 297 (-1000003) ∈ tw_gT := gT_6 101 rfl rfl
set_option maxRecDepth 10000 in
theorem kc_RX9_298 : Cond.constant RX9 298 (-1000007) ∈ tw_gT := gT_6 106 rfl rfl
set_option maxRecDepth 10000 in
theorem wm_min_s : Cond.static Lib.Math.min.name ∈ tw_gT := gT_2 69 rfl rfl
set_option maxRecDepth 10000 in
theorem wm_min_c : Cond.code Lib.Math.min.name Lib.Math.min.code 2 (some .int) ∈ tw_gT := gT_2 70 rfl rfl
set_option maxRecDepth 10000 in
theorem wm_max_s : Cond.static Lib.Math.max.name ∈ tw_gT := gT_2 187 rfl rfl
set_option maxRecDepth 10000 in
theorem wm_max_c : Cond.code Lib.Math.max.name Lib.Math.max.code 2 (some .int) ∈ tw_gT := gT_2 188 rfl rfl
set_option maxRecDepth 10000 in
theorem wm_i : Cond.initialized "java/lang/Math" ∈ tw_gT := gT_1 11 rfl rfl
set_option maxRecDepth 10000 in
theorem wa_n : Cond.native arraycopyName ∈ tw_gT := gT_3 209 rfl rfl
set_option maxRecDepth 10000 in
theorem wa_s : Cond.static arraycopyName ∈ tw_gT := gT_3 208 rfl rfl
set_option maxRecDepth 10000 in
theorem wa_i : Cond.initialized "java/lang/System" ∈ tw_gT := gT_1 13 rfl rfl
set_option maxRecDepth 10000 in
theorem rc_0 {k : Nat} (h : tw_isK k 0 = true) : tw_rc k RX0 := ⟨0, _, h, rfl, rfl⟩
set_option maxRecDepth 10000 in
theorem rc_1 {k : Nat} (h : tw_isK k 1 = true) : tw_rc k RX1 := ⟨1, _, h, rfl, rfl⟩
set_option maxRecDepth 10000 in
theorem rc_2 {k : Nat} (h : tw_isK k 2 = true) : tw_rc k RX2 := ⟨2, _, h, rfl, rfl⟩
set_option maxRecDepth 10000 in
theorem rc_3 {k : Nat} (h : tw_isK k 3 = true) : tw_rc k RX3 := ⟨3, _, h, rfl, rfl⟩
set_option maxRecDepth 10000 in
theorem rc_4 {k : Nat} (h : tw_isK k 4 = true) : tw_rc k RX4 := ⟨4, _, h, rfl, rfl⟩
set_option maxRecDepth 10000 in
theorem rc_5 {k : Nat} (h : tw_isK k 5 = true) : tw_rc k RX5 := ⟨5, _, h, rfl, rfl⟩
set_option maxRecDepth 10000 in
theorem rc_6 {k : Nat} (h : tw_isK k 6 = true) : tw_rc k RX6 := ⟨6, _, h, rfl, rfl⟩
set_option maxRecDepth 10000 in
theorem rc_7 {k : Nat} (h : tw_isK k 7 = true) : tw_rc k RX7 := ⟨7, _, h, rfl, rfl⟩
set_option maxRecDepth 10000 in
theorem rc_8 {k : Nat} (h : tw_isK k 8 = true) : tw_rc k RX8 := ⟨8, _, h, rfl, rfl⟩
set_option maxRecDepth 10000 in
theorem rc_9 {k : Nat} (h : tw_isK k 9 = true) : tw_rc k RX9 := ⟨9, _, h, rfl, rfl⟩
