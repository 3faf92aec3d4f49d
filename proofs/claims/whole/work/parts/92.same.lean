/-! ===== the world after both constructors is the store tau0: objects and arrays of ints ===== -/
theorem cE_same {cy : Nat → ClassId} {ρ : Nat → Nat} {k : Nat} (hk : k < 202) (h : (tw_sh k).1 ≤ 10) : tw_cE cy ρ (tw_sh k) (cF c00 k) = tw_cE cy ρ (tw_sh k) (tw_lift tau0 k) := by
  unfold tw_cE
  by_cases c : (tw_sh k).1 < 10
  · rw [if_pos c, if_pos c, List.map_congr_left (fun j hj => by rw [tau0_obj k hk j (List.mem_range.mp hj)])]
  · have e : (tw_sh k).1 = 10 := by omega
    have ef : (fun j => tw_vi (cF c00 k j)) = fun j => tw_vi (tw_lift tau0 k j) := by
      funext j
      unfold tw_lift
      rw [if_pos (lk_int0 hk e j)]
      rfl
    rw [if_neg c, if_neg c, if_pos e, if_pos e, ef]
