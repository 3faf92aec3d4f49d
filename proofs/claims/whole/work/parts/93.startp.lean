/-! ===== the world after both constructors is the store tau0 ===== -/
theorem arrV_congr {cI : ClassId} {N : Nat} {f g : Nat → Value} (h : ∀ j, j < N → f j = g j) : arrV cI N f = arrV cI N g := by
  have e : (fun j : Fin N => f j.val) = fun j => g j.val := funext fun j => h j.val j.isLt
  unfold arrV
  rw [e]
theorem start_P {cy : Nat → ClassId} {ρ : Nat → Nat} {D : va_G} {H : Heap} (h : va_P D vwCl (tw_wD cy ρ 202 tw_sh (cF c00)) H) : va_P D vwCl (tw_wS cy ρ tau0) H := by
  intro k q hq
  obtain ⟨hk, -⟩ := wD_get_inv (show (tw_wD cy ρ 202 tw_sh (tw_lift tau0))[k]? = some q from hq)
  have hq2 : (tw_wD cy ρ 202 tw_sh (tw_lift tau0))[k]? = some (ρ k, tw_cE cy ρ (tw_sh k) (tw_lift tau0 k)) := wD_get hk
  obtain rfl : (ρ k, tw_cE cy ρ (tw_sh k) (tw_lift tau0 k)) = q := Option.some.inj (hq2.symm.trans hq)
  have h0 := h k _ (wD_get hk)
  by_cases c : (tw_sh k).1 ≤ 10
  · rw [← cE_same hk c]
    exact h0
  · obtain ⟨t, m, e⟩ : ∃ t m, tw_sh k = (t, m) := ⟨_, _, rfl⟩
    have ht : 10 < t := by rw [e] at c; exact Nat.not_le.mp c
    have hm : ∀ j, j < m → cF c00 k j = tw_lift tau0 k j := fun j hj => tau0_obj k hk j (by rw [e]; exact hj)
    rw [e, cE_ref ht] at h0 ⊢
    have h1 : H[ρ k]? = some (vp_cell (cy (t - 10)) (m, .inr (.inr (.inr (.inr (fun j => tw_vr ρ (cF c00 k j))))))) := h0
    show H[ρ k]? = some (vp_cell (cy (t - 10)) (m, .inr (.inr (.inr (.inr (fun j => tw_vr ρ (tw_lift tau0 k j)))))))
    rw [h1, vp_cell_q, vp_cell_q]
    refine congrArg some (arrV_congr (fun j hj => ?_))
    show va_rf (tw_vr ρ (cF c00 k j)) = va_rf (tw_vr ρ (tw_lift tau0 k j))
    rw [hm j hj]
