section M01
variable {G : xG} {I : xI} {J : xJ}
set_option maxRecDepth 20000 in
theorem c9_in (v lo hi : Int64) : xCon G M_X9_in [.long v, .long lo, .long hi] I J (xpi fun r I' J' => r = b2 (decide (lo ≤ v ∧ v ≤ hi)) ∧ I' = I ∧ J' = J) := by
  refine x_ent (by decide) (Nat.le_of_ble_eq_true rfl) rfl ?_
  show xT _ _ _ _ [_, _, _, _, _, _] _ _ _
  refine xr_lload0 dX9_in_0 rfl ?_
  refine xr_lload2 dX9_in_1 rfl ?_
  refine xr_lcmp dX9_in_2 ?_
  refine xr_if_lt 17 dX9_in_3 (by decide) (fun h => ?_) (fun h => ?_)
  · refine xr_ic0 dX9_in_17 ?_
    refine xr_zret dX9_in_18 rfl rfl (by simp) ⟨b2_N (fun q => absurd h (by rw [lg_cmp_lt]; exact Int64.not_lt.mpr q.1)), rfl, rfl⟩
  · refine xr_lload0 dX9_in_6 rfl ?_
    refine xr_lload dX9_in_7 rfl ?_
    refine xr_lcmp dX9_in_9 ?_
    refine xr_if_gt 17 dX9_in_10 (by decide) (fun h2 => ?_) (fun h2 => ?_)
    · refine xr_ic0 dX9_in_17 ?_
      refine xr_zret dX9_in_18 rfl rfl (by simp) ⟨b2_N (fun q => absurd h2 (fun h2 => absurd ((lg_cmp_gt _ _).mp h2) (Int64.not_lt.mpr q.2))), rfl, rfl⟩
    · refine xr_ic1 dX9_in_13 ?_
      refine xr_goto 18 dX9_in_14 (by decide) ?_
      refine xr_zret dX9_in_18 rfl rfl (by simp) ⟨b2_P ⟨Int64.not_lt.mp (fun q => h ((lg_cmp_lt _ _).mpr q)), Int64.not_lt.mp (fun q => h2 ((lg_cmp_gt _ _).mpr q))⟩, rfl, rfl⟩
end M01
