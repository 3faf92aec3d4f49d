/-! ===== the pure store, and how a heap holds it ===== -/
abbrev tw_T : Type := Nat → Nat → Int32
def tw_sr (τ : tw_T) (k : Nat) (r : Nat → Int32) : tw_T := fun q => if q = k then r else τ q
theorem sr_self (τ : tw_T) (k : Nat) (r : Nat → Int32) : tw_sr τ k r k = r := if_pos rfl
theorem sr_ne {τ : tw_T} {k : Nat} {r : Nat → Int32} {q : Nat} (h : q ≠ k) : tw_sr τ k r q = τ q := if_neg h
theorem sr_sr (τ : tw_T) (k : Nat) (r r' : Nat → Int32) : tw_sr (tw_sr τ k r) k r' = tw_sr τ k r' := by
  funext q
  by_cases h : q = k <;> simp [tw_sr, h]
theorem sr_id (τ : tw_T) (k : Nat) : tw_sr τ k (τ k) = τ := by
  funext q
  by_cases h : q = k
  · subst h; simp [tw_sr]
  · simp [tw_sr, h]
theorem sr_comm {τ : tw_T} {a b : Nat} (h : a ≠ b) (r r' : Nat → Int32) : tw_sr (tw_sr τ a r) b r' = tw_sr (tw_sr τ b r') a r := by
  funext q
  by_cases h1 : q = a
  · subst h1; simp [tw_sr, h]
  · simp [tw_sr, h1]
def tw_tr (ρ : Nat → Nat) : Value → Value
  | .ref k => .ref (ρ k)
  | v => v
theorem tr_cat (ρ : Nat → Nat) (v : Value) : (tw_tr ρ v).category = v.category := by cases v <;> rfl
theorem tr_nn {ρ : Nat → Nat} {v : Value} (h : v ≠ .null) : tw_tr ρ v ≠ .null := by
  cases v <;> simp_all [tw_tr]
def tw_vi : Value → Int32
  | .int x => x
  | _ => 0
def tw_vr (ρ : Nat → Nat) : Value → Option Nat
  | .ref k => some (ρ k)
  | _ => none
def tw_cE (cy : Nat → ClassId) (ρ : Nat → Nat) (q : Nat × Nat) (f : Nat → Value) : va_E :=
  if q.1 < 10 then .inr (q.1, (List.range q.2).map (fun j => tw_tr ρ (f j))) else if q.1 = 10 then .inl (cy 0, q.2, .inl (fun j => tw_vi (f j))) else .inl (cy (q.1 - 10), q.2, .inr (.inr (.inr (.inr (fun j => tw_vr ρ (f j))))))
def tw_wD (cy : Nat → ClassId) (ρ : Nat → Nat) (n : Nat) (sh : Nat → Nat × Nat) (c : Nat → Nat → Value) : va_W := (List.range n).map (fun k => (ρ k, tw_cE cy ρ (sh k) (c k)))
section WD
variable {cy : Nat → ClassId} {ρ : Nat → Nat} {n : Nat} {sh : Nat → Nat × Nat} {c : Nat → Nat → Value}
theorem wD_get {k : Nat} (h : k < n) : (tw_wD cy ρ n sh c)[k]? = some (ρ k, tw_cE cy ρ (sh k) (c k)) := by
  simp [tw_wD, h]
theorem wD_get_inv {k : Nat} {q : Nat × va_E} (h : (tw_wD cy ρ n sh c)[k]? = some q) : k < n ∧ q.1 = ρ k := by
  by_cases hk : k < n
  · rw [wD_get hk] at h
    exact ⟨hk, by rw [← Option.some.inj h]⟩
  · simp [tw_wD, hk] at h
theorem wD_D {A : Nat → Prop} (hinj : ∀ i j : Nat, i < n → j < n → ρ i = ρ j → i = j) (hA : ∀ k : Nat, k < n → A (ρ k)) : va_D A (tw_wD cy ρ n sh c) := by
  refine ⟨fun i j p q hi hj hpq => ?_, fun k q hk => ?_⟩
  · obtain ⟨h1, h2⟩ := wD_get_inv hi
    obtain ⟨h3, h4⟩ := wD_get_inv hj
    exact hinj i j h1 h3 (by rw [← h2, ← h4, hpq])
  · obtain ⟨h1, h2⟩ := wD_get_inv hk
    rw [h2]
    exact hA k h1
theorem wD_set {k : Nat} (f : Nat → Value) : (tw_wD cy ρ n sh c).set k (ρ k, tw_cE cy ρ (sh k) f) = tw_wD cy ρ n sh (fun q => if q = k then f else c q) := by
  apply List.ext_getElem?
  intro i
  rw [List.getElem?_set]
  by_cases hi : k = i
  · subst hi
    by_cases hk : k < n
    · rw [wD_get hk]
      simp [tw_wD, hk]
    · simp [tw_wD, hk]
  · rw [if_neg hi]
    by_cases hin : i < n
    · rw [wD_get hin, wD_get hin, if_neg (fun h => hi h.symm)]
    · simp [tw_wD, hin]
theorem cE_obj {ci m : Nat} {f : Nat → Value} (h : ci < 10) : tw_cE cy ρ (ci, m) f = .inr (ci, (List.range m).map (fun j => tw_tr ρ (f j))) := by
  simp [tw_cE, h]
theorem cE_int {m : Nat} {f : Nat → Value} : tw_cE cy ρ (10, m) f = .inl (cy 0, m, .inl (fun j => tw_vi (f j))) := by
  simp [tw_cE]
theorem cE_ref {t m : Nat} {f : Nat → Value} (h : 10 < t) : tw_cE cy ρ (t, m) f = .inl (cy (t - 10), m, .inr (.inr (.inr (.inr (fun j => tw_vr ρ (f j)))))) := by
  have h1 : ¬ t < 10 := by omega
  have h2 : ¬ t = 10 := by omega
  simp [tw_cE, h1, h2]
theorem fs_at {f : Nat → Value} {m j : Nat} (h : j < m) : ((List.range m).map (fun j => tw_tr ρ (f j)))[j]? = some (tw_tr ρ (f j)) := by
  simp [h]
theorem fs_set {f : Nat → Value} {m j : Nat} (v : Value) : ((List.range m).map (fun j => tw_tr ρ (f j))).set j (tw_tr ρ v) = (List.range m).map (fun q => tw_tr ρ (if q = j then v else f q)) := by
  apply List.ext_getElem?
  intro i
  rw [List.getElem?_set]
  by_cases hi : j = i
  · subst hi
    by_cases hj : j < m <;> simp [hj]
  · rw [if_neg hi]
    by_cases him : i < m
    · have hij : ¬ i = j := fun h => hi h.symm
      simp [him, hij]
    · simp [him]
end WD
/-- the locals that are known, by place (.null: unknown) -/
def tw_Lv (la : Array Slot) (nL : Nat) (L : List Value) : Prop := la.size = nL ∧ lv_wf la ∧ ∀ (i : Nat) (v : Value), L[i]? = some v → v ≠ .null → la[i]? = some (.val v)
def tw_as (L : List Value) : List (Nat × Value) := ((List.range L.length).zip L).filter (fun q => decide (q.2 ≠ .null))
theorem as_mem {L : List Value} {q : Nat × Value} : q ∈ tw_as L ↔ L[q.1]? = some q.2 ∧ q.2 ≠ .null := by
  obtain ⟨i, v⟩ := q
  unfold tw_as
  rw [List.mem_filter]
  simp only [decide_eq_true_eq]
  refine and_congr ?_ Iff.rfl
  rw [List.mem_iff_getElem?]
  constructor
  · rintro ⟨j, hj⟩
    rw [List.getElem?_zip_eq_some] at hj
    obtain ⟨h1, h2⟩ := hj
    have h3 : j = i := by
      have := List.getElem?_eq_some_iff.mp h1
      obtain ⟨hl, he⟩ := this
      simpa using he
    subst h3
    exact h2
  · intro h
    refine ⟨i, ?_⟩
    rw [List.getElem?_zip_eq_some]
    have hl := (List.getElem?_eq_some_iff.mp h).1
    exact ⟨by simp [hl], h⟩
theorem Lv_has {la : Array Slot} {nL : Nat} {L : List Value} (h : tw_Lv la nL L) : lv_has la nL (tw_as L) :=
  ⟨h.1, h.2.1, fun q hq => h.2.2 q.1 q.2 (as_mem.mp hq).1 (as_mem.mp hq).2⟩
/-- no long lies just ahead of place i -/
def tw_n2 (L : List Value) (i : Nat) : Bool := match i with
  | 0 => true
  | j + 1 => match L[j]? with
    | some (.long _) => false
    | some (.double _) => false
    | _ => true
theorem n2_cat {L : List Value} {i j : Nat} {v : Value} (h : tw_n2 L i = true) (hj : j + 1 = i) (hv : L[j]? = some v) : v.category = 1 := by
  subst hj
  unfold tw_n2 at h
  simp only [hv] at h
  cases v <;> simp_all [Value.category]
theorem n2_tr {ρ : Nat → Nat} {L : List Value} {i : Nat} (h : tw_n2 L i = true) : tw_n2 (L.map (tw_tr ρ)) i = true := by
  unfold tw_n2 at h ⊢
  cases i with
  | zero => rfl
  | succ j =>
    simp only [List.getElem?_map] at h ⊢
    cases hq : L[j]? with
    | none => simp
    | some v =>
      simp only [hq] at h
      cases v <;> simp_all [tw_tr]
theorem Lv_of_store {la la' : Array Slot} {nL i : Nat} {L : List Value} {v : Value} (h2 : tw_n2 L i = true)
    (h : lv_has la' nL ((i, v) :: (tw_as L).filter (fun q => !(q.1 == i) && !(q.1 + 1 == i && q.2.category == 2)))) : tw_Lv la' nL (L.set i v) := by
  refine ⟨h.1, h.2.1, fun j w hj hw => ?_⟩
  rw [List.getElem?_set] at hj
  by_cases hji : i = j
  · subst hji
    rw [if_pos rfl] at hj
    by_cases hl : i < L.length
    · rw [if_pos hl] at hj
      cases hj
      exact h.2.2 (i, _) List.mem_cons_self
    · rw [if_neg hl] at hj; cases hj
  · rw [if_neg hji] at hj
    refine h.2.2 (j, w) (List.mem_cons_of_mem _ (List.mem_filter.mpr ⟨as_mem.mpr ⟨hj, hw⟩, ?_⟩))
    have e1 : (j == i) = false := by simpa using fun e => hji e.symm
    by_cases e2 : j + 1 = i
    · have := n2_cat h2 e2 hj
      simp [e1, this]
    · have e3 : (j + 1 == i) = false := by simpa using e2
      simp [e1, e3]
theorem Lv_of_store2 {la' : Array Slot} {nL i : Nat} {L : List Value} {v : Value} (h2 : tw_n2 L i = true)
    (h : lv_has la' nL ((i, v) :: (tw_as L).filter (fun q => !(q.1 == i) && (!(q.1 == i + 1) && !(q.1 + 1 == i && q.2.category == 2))))) : tw_Lv la' nL ((L.set i v).set (i + 1) .null) := by
  refine ⟨h.1, h.2.1, fun j w hj hw => ?_⟩
  rw [List.getElem?_set] at hj
  by_cases hj1 : i + 1 = j
  · subst hj1
    rw [if_pos rfl] at hj
    by_cases hl : i + 1 < (L.set i v).length
    · rw [if_pos hl] at hj
      cases hj
      exact absurd rfl hw
    · rw [if_neg hl] at hj; cases hj
  rw [if_neg hj1] at hj
  rw [List.getElem?_set] at hj
  by_cases hji : i = j
  · subst hji
    rw [if_pos rfl] at hj
    by_cases hl : i < L.length
    · rw [if_pos hl] at hj
      cases hj
      exact h.2.2 (i, _) List.mem_cons_self
    · rw [if_neg hl] at hj; cases hj
  · rw [if_neg hji] at hj
    refine h.2.2 (j, w) (List.mem_cons_of_mem _ (List.mem_filter.mpr ⟨as_mem.mpr ⟨hj, hw⟩, ?_⟩))
    have e1 : (j == i) = false := by simpa using fun e => hji e.symm
    have e4 : (j == i + 1) = false := by simpa using fun e => hj1 e.symm
    by_cases e2 : j + 1 = i
    · have := n2_cat h2 e2 hj
      simp [e1, e4, this]
    · have e3 : (j + 1 == i) = false := by simpa using e2
      simp [e1, e3, e4]
theorem Lv_entry {vs : List Value} {n : Nat} (h1 : ∀ v ∈ vs, v.category = 1) (hn : vs.length ≤ n) : tw_Lv ((lg_sl vs ++ List.replicate (n - (lg_sl vs).length) Slot.unset).toArray) n (vs ++ List.replicate (n - vs.length) .null) := by
  have e : ∀ vs : List Value, (∀ v ∈ vs, v.category = 1) → lg_sl vs = vs.map Slot.val := by
    intro vs
    induction vs with
    | nil => intro _; rfl
    | cons v t ih =>
      intro h
      have hv : v.category = 1 := h v List.mem_cons_self
      have ht := ih (fun w hw => h w (List.mem_cons_of_mem _ hw))
      simp only [lg_sl, List.flatMap_cons, hv] at ht ⊢
      simp [ht]
  have hl : (lg_sl vs).length = vs.length := by rw [e vs h1]; simp
  obtain ⟨a, b, -⟩ := lv_entry vs (n := n) (by rw [hl]; exact hn)
  refine ⟨a, b, fun i v hi hv => ?_⟩
  rw [e vs h1]
  by_cases hlt : i < vs.length
  · rw [List.getElem?_append_left hlt] at hi
    simp only [List.getElem?_toArray]
    rw [List.getElem?_append_left (by simpa using hlt), List.getElem?_map, hi]
    rfl
  · rw [List.getElem?_append_right (by omega)] at hi
    rw [List.getElem?_replicate] at hi
    split at hi
    · cases hi; exact absurd rfl hv
    · cases hi
