set_option maxRecDepth 20000 in
theorem yk_X7_init (g : yG) (h0 : Nat) : yCon g M_X7_init [.ref h0] [yO h0 7 [.long 0, .int 0]] (fun w => ∃ a : Nat → Nat, a 0 = h0 ∧ w = yl_X7_init g a) 0 0 := by
  refine y_ent (by decide) rfl (Nat.le_of_ble_eq_true rfl) ?_
  show yT _ _ _ 0 [_] _ _ _ _
  refine y_aload0 dX7_init_0 rfl ?_
  refine y_obj dX7_init_1 ⟨xt 30 (by decide +kernel) rfl, by decide, by decide⟩ ?_
  refine y_aload0 dX7_init_4 rfl ?_
  refine y_lc0 dX7_init_5 ?_
  refine y_put (ty := .long) (ws' := [yO h0 7 [.long 0, .int 0]]) dX7_init_6 fp_7_9 (by first | rfl | decide) (by first | rfl | decide) 0 rfl (Nat.le_of_ble_eq_true rfl) rfl ?_
  refine y_aload0 dX7_init_9 rfl ?_
  refine y_ic (v := 0) (by decide) dX7_init_10 ?_
  refine y_put (ty := .int) (ws' := [yO h0 7 [.long 0, .int 0]]) dX7_init_11 fp_7_15 (by first | rfl | decide) (by first | rfl | decide) 0 rfl (Nat.le_of_ble_eq_true rfl) rfl ?_
  exact y_ret dX7_init_14 rfl (by decide) (by decide) ⟨fun k => ([h0] : List Nat).getD k 0, rfl, rfl⟩
set_option maxRecDepth 20000 in
theorem yk_X5_init (g : yG) (h0 : Nat) : yCon g M_X5_init [.ref h0] [yO h0 5 [.null, .int 0, .int 0, .int 0]] (fun w => ∃ a : Nat → Nat, a 0 = h0 ∧ w = yl_X5_init g a) 1 40 := by
  refine y_ent (by decide) rfl (Nat.le_of_ble_eq_true rfl) ?_
  show yT _ _ _ 0 [_] _ _ _ _
  refine y_aload0 dX5_init_0 rfl ?_
  refine y_obj dX5_init_1 ⟨xt 285 (by decide +kernel) rfl, by decide, by decide⟩ ?_
  refine y_aload0 dX5_init_4 rfl ?_
  refine y_bip (v := 40) (by decide) dX5_init_5 ?_
  refine y_newI (N := 40) (ws' := fun q1 => [yO h0 5 [.null, .int 0, .int 0, .int 0], yI g q1 40]) dX5_init_7 (by decide) (by decide) (by decide) (by decide) (by decide) (fun _ => rfl) (fun q1 => ?_)
  refine y_putF (ty := .array .int) (ws' := [yO h0 5 [.ref q1, .int 0, .int 0, .int 0], yI g q1 40]) dX5_init_9 fk_5_9 rfl rfl rfl (by decide +kernel) rfl rfl 0 rfl (Nat.le_of_ble_eq_true rfl) rfl ?_
  exact y_ret dX5_init_12 rfl (by decide) (by decide) ⟨fun k => ([h0, q1] : List Nat).getD k 0, rfl, rfl⟩
set_option maxRecDepth 20000 in
theorem yk_X0_init3000 (g : yG) (h0 : Nat) : yCon g M_X0_init3000 [.ref h0, .int 3000, .int 4096] [yO h0 0 [.null, .null, .null, .int 0, .int 0]] (fun w => ∃ a : Nat → Nat, a 0 = h0 ∧ w = yl_X0_init3000 g a) 3 10096 := by
  refine y_ent (by decide) rfl (Nat.le_of_ble_eq_true rfl) ?_
  show yT _ _ _ 0 [_, _, _] _ _ _ _
  refine y_aload0 dX0_init_0 rfl ?_
  refine y_obj dX0_init_1 ⟨xt 144 (by decide +kernel) rfl, by decide, by decide⟩ ?_
  refine y_aload0 dX0_init_4 rfl ?_
  refine y_ic (v := 0) (by decide) dX0_init_5 ?_
  refine y_put (ty := .int) (ws' := [yO h0 0 [.null, .null, .null, .int 0, .int 0]]) dX0_init_6 fp_0_9 (by first | rfl | decide) (by first | rfl | decide) 0 rfl (Nat.le_of_ble_eq_true rfl) rfl ?_
  refine y_aload0 dX0_init_9 rfl ?_
  refine y_ic (v := 1) (by decide) dX0_init_10 ?_
  refine y_put (ty := .int) (ws' := [yO h0 0 [.null, .null, .null, .int 0, .int 1]]) dX0_init_11 fp_0_13 (by first | rfl | decide) (by first | rfl | decide) 0 rfl (Nat.le_of_ble_eq_true rfl) rfl ?_
  refine y_aload0 dX0_init_14 rfl ?_
  refine y_iload1 dX0_init_15 rfl ?_
  refine y_newJ (N := 3000) (ws' := fun q1 => [yO h0 0 [.null, .null, .null, .int 0, .int 1], yJ g q1 3000]) dX0_init_16 (by decide) (by decide) (by decide) (by decide) (by decide) (fun _ => rfl) (fun q1 => ?_)
  refine y_putF (ty := .array .long) (ws' := [yO h0 0 [.ref q1, .null, .null, .int 0, .int 1], yJ g q1 3000]) dX0_init_18 fk_0_16 rfl rfl rfl (by decide +kernel) rfl rfl 0 rfl (Nat.le_of_ble_eq_true rfl) rfl ?_
  refine y_aload0 dX0_init_21 rfl ?_
  refine y_iload1 dX0_init_22 rfl ?_
  refine y_newI (N := 3000) (ws' := fun q2 => [yO h0 0 [.ref q1, .null, .null, .int 0, .int 1], yJ g q1 3000, yI g q2 3000]) dX0_init_23 (by decide) (by decide) (by decide) (by decide) (by decide) (fun _ => rfl) (fun q2 => ?_)
  refine y_putF (ty := .array .int) (ws' := [yO h0 0 [.ref q1, .ref q2, .null, .int 0, .int 1], yJ g q1 3000, yI g q2 3000]) dX0_init_25 fk_0_20 rfl rfl rfl (by decide +kernel) rfl rfl 0 rfl (Nat.le_of_ble_eq_true rfl) rfl ?_
  refine y_aload0 dX0_init_28 rfl ?_
  refine y_iload2 dX0_init_29 rfl ?_
  refine y_newI (N := 4096) (ws' := fun q3 => [yO h0 0 [.ref q1, .ref q2, .null, .int 0, .int 1], yJ g q1 3000, yI g q2 3000, yI g q3 4096]) dX0_init_30 (by decide) (by decide) (by decide) (by decide) (by decide) (fun _ => rfl) (fun q3 => ?_)
  refine y_putF (ty := .array .int) (ws' := [yO h0 0 [.ref q1, .ref q2, .ref q3, .int 0, .int 1], yJ g q1 3000, yI g q2 3000, yI g q3 4096]) dX0_init_32 fk_0_24 rfl rfl rfl (by decide +kernel) rfl rfl 0 rfl (Nat.le_of_ble_eq_true rfl) rfl ?_
  exact y_ret dX0_init_35 rfl (by decide) (by decide) ⟨fun k => ([h0, q1, q2, q3] : List Nat).getD k 0, rfl, rfl⟩
set_option maxRecDepth 20000 in
theorem yk_X0_init200 (g : yG) (h0 : Nat) : yCon g M_X0_init200 [.ref h0, .int 200, .int 512] [yO h0 0 [.null, .null, .null, .int 0, .int 0]] (fun w => ∃ a : Nat → Nat, a 0 = h0 ∧ w = yl_X0_init200 g a) 3 912 := by
  refine y_ent (by decide) rfl (Nat.le_of_ble_eq_true rfl) ?_
  show yT _ _ _ 0 [_, _, _] _ _ _ _
  refine y_aload0 dX0_init_0 rfl ?_
  refine y_obj dX0_init_1 ⟨xt 144 (by decide +kernel) rfl, by decide, by decide⟩ ?_
  refine y_aload0 dX0_init_4 rfl ?_
  refine y_ic (v := 0) (by decide) dX0_init_5 ?_
  refine y_put (ty := .int) (ws' := [yO h0 0 [.null, .null, .null, .int 0, .int 0]]) dX0_init_6 fp_0_9 (by first | rfl | decide) (by first | rfl | decide) 0 rfl (Nat.le_of_ble_eq_true rfl) rfl ?_
  refine y_aload0 dX0_init_9 rfl ?_
  refine y_ic (v := 1) (by decide) dX0_init_10 ?_
  refine y_put (ty := .int) (ws' := [yO h0 0 [.null, .null, .null, .int 0, .int 1]]) dX0_init_11 fp_0_13 (by first | rfl | decide) (by first | rfl | decide) 0 rfl (Nat.le_of_ble_eq_true rfl) rfl ?_
  refine y_aload0 dX0_init_14 rfl ?_
  refine y_iload1 dX0_init_15 rfl ?_
  refine y_newJ (N := 200) (ws' := fun q1 => [yO h0 0 [.null, .null, .null, .int 0, .int 1], yJ g q1 200]) dX0_init_16 (by decide) (by decide) (by decide) (by decide) (by decide) (fun _ => rfl) (fun q1 => ?_)
  refine y_putF (ty := .array .long) (ws' := [yO h0 0 [.ref q1, .null, .null, .int 0, .int 1], yJ g q1 200]) dX0_init_18 fk_0_16 rfl rfl rfl (by decide +kernel) rfl rfl 0 rfl (Nat.le_of_ble_eq_true rfl) rfl ?_
  refine y_aload0 dX0_init_21 rfl ?_
  refine y_iload1 dX0_init_22 rfl ?_
  refine y_newI (N := 200) (ws' := fun q2 => [yO h0 0 [.ref q1, .null, .null, .int 0, .int 1], yJ g q1 200, yI g q2 200]) dX0_init_23 (by decide) (by decide) (by decide) (by decide) (by decide) (fun _ => rfl) (fun q2 => ?_)
  refine y_putF (ty := .array .int) (ws' := [yO h0 0 [.ref q1, .ref q2, .null, .int 0, .int 1], yJ g q1 200, yI g q2 200]) dX0_init_25 fk_0_20 rfl rfl rfl (by decide +kernel) rfl rfl 0 rfl (Nat.le_of_ble_eq_true rfl) rfl ?_
  refine y_aload0 dX0_init_28 rfl ?_
  refine y_iload2 dX0_init_29 rfl ?_
  refine y_newI (N := 512) (ws' := fun q3 => [yO h0 0 [.ref q1, .ref q2, .null, .int 0, .int 1], yJ g q1 200, yI g q2 200, yI g q3 512]) dX0_init_30 (by decide) (by decide) (by decide) (by decide) (by decide) (fun _ => rfl) (fun q3 => ?_)
  refine y_putF (ty := .array .int) (ws' := [yO h0 0 [.ref q1, .ref q2, .ref q3, .int 0, .int 1], yJ g q1 200, yI g q2 200, yI g q3 512]) dX0_init_32 fk_0_24 rfl rfl rfl (by decide +kernel) rfl rfl 0 rfl (Nat.le_of_ble_eq_true rfl) rfl ?_
  exact y_ret dX0_init_35 rfl (by decide) (by decide) ⟨fun k => ([h0, q1, q2, q3] : List Nat).getD k 0, rfl, rfl⟩
set_option maxRecDepth 20000 in
theorem yk_X3_init (g : yG) (h0 : Nat) : yCon g M_X3_init [.ref h0] [yO h0 3 [.null, .null, .null, .null, .null, .int 0, .int 0, .int 0, .int 0, .int 0]] (fun w => ∃ a : Nat → Nat, a 0 = h0 ∧ w = yl_X3_init g a) 5 208 := by
  refine y_ent (by decide) rfl (Nat.le_of_ble_eq_true rfl) ?_
  show yT _ _ _ 0 [_] _ _ _ _
  refine y_aload0 dX3_init_0 rfl ?_
  refine y_obj dX3_init_1 ⟨xt 50 (by decide +kernel) rfl, by decide, by decide⟩ ?_
  refine y_aload0 dX3_init_4 rfl ?_
  refine y_bip (v := 32) (by decide) dX3_init_5 ?_
  refine y_newI (N := 32) (ws' := fun q1 => [yO h0 3 [.null, .null, .null, .null, .null, .int 0, .int 0, .int 0, .int 0, .int 0], yI g q1 32]) dX3_init_7 (by decide) (by decide) (by decide) (by decide) (by decide) (fun _ => rfl) (fun q1 => ?_)
  refine y_putF (ty := .array .int) (ws' := [yO h0 3 [.ref q1, .null, .null, .null, .null, .int 0, .int 0, .int 0, .int 0, .int 0], yI g q1 32]) dX3_init_9 fk_3_9 rfl rfl rfl (by decide +kernel) rfl rfl 0 rfl (Nat.le_of_ble_eq_true rfl) rfl ?_
  refine y_aload0 dX3_init_12 rfl ?_
  refine y_bip (v := 32) (by decide) dX3_init_13 ?_
  refine y_newI (N := 32) (ws' := fun q2 => [yO h0 3 [.ref q1, .null, .null, .null, .null, .int 0, .int 0, .int 0, .int 0, .int 0], yI g q1 32, yI g q2 32]) dX3_init_15 (by decide) (by decide) (by decide) (by decide) (by decide) (fun _ => rfl) (fun q2 => ?_)
  refine y_putF (ty := .array .int) (ws' := [yO h0 3 [.ref q1, .ref q2, .null, .null, .null, .int 0, .int 0, .int 0, .int 0, .int 0], yI g q1 32, yI g q2 32]) dX3_init_17 fk_3_15 rfl rfl rfl (by decide +kernel) rfl rfl 0 rfl (Nat.le_of_ble_eq_true rfl) rfl ?_
  refine y_aload0 dX3_init_20 rfl ?_
  refine y_bip (v := 64) (by decide) dX3_init_21 ?_
  refine y_newI (N := 64) (ws' := fun q3 => [yO h0 3 [.ref q1, .ref q2, .null, .null, .null, .int 0, .int 0, .int 0, .int 0, .int 0], yI g q1 32, yI g q2 32, yI g q3 64]) dX3_init_23 (by decide) (by decide) (by decide) (by decide) (by decide) (fun _ => rfl) (fun q3 => ?_)
  refine y_putF (ty := .array .int) (ws' := [yO h0 3 [.ref q1, .ref q2, .ref q3, .null, .null, .int 0, .int 0, .int 0, .int 0, .int 0], yI g q1 32, yI g q2 32, yI g q3 64]) dX3_init_25 fk_3_18 rfl rfl rfl (by decide +kernel) rfl rfl 0 rfl (Nat.le_of_ble_eq_true rfl) rfl ?_
  refine y_aload0 dX3_init_28 rfl ?_
  refine y_bip (v := 64) (by decide) dX3_init_29 ?_
  refine y_newI (N := 64) (ws' := fun q4 => [yO h0 3 [.ref q1, .ref q2, .ref q3, .null, .null, .int 0, .int 0, .int 0, .int 0, .int 0], yI g q1 32, yI g q2 32, yI g q3 64, yI g q4 64]) dX3_init_31 (by decide) (by decide) (by decide) (by decide) (by decide) (fun _ => rfl) (fun q4 => ?_)
  refine y_putF (ty := .array .int) (ws' := [yO h0 3 [.ref q1, .ref q2, .ref q3, .ref q4, .null, .int 0, .int 0, .int 0, .int 0, .int 0], yI g q1 32, yI g q2 32, yI g q3 64, yI g q4 64]) dX3_init_33 fk_3_21 rfl rfl rfl (by decide +kernel) rfl rfl 0 rfl (Nat.le_of_ble_eq_true rfl) rfl ?_
  refine y_aload0 dX3_init_36 rfl ?_
  refine y_bip (v := 16) (by decide) dX3_init_37 ?_
  refine y_newI (N := 16) (ws' := fun q5 => [yO h0 3 [.ref q1, .ref q2, .ref q3, .ref q4, .null, .int 0, .int 0, .int 0, .int 0, .int 0], yI g q1 32, yI g q2 32, yI g q3 64, yI g q4 64, yI g q5 16]) dX3_init_39 (by decide) (by decide) (by decide) (by decide) (by decide) (fun _ => rfl) (fun q5 => ?_)
  refine y_putF (ty := .array .int) (ws' := [yO h0 3 [.ref q1, .ref q2, .ref q3, .ref q4, .ref q5, .int 0, .int 0, .int 0, .int 0, .int 0], yI g q1 32, yI g q2 32, yI g q3 64, yI g q4 64, yI g q5 16]) dX3_init_41 fk_3_24 rfl rfl rfl (by decide +kernel) rfl rfl 0 rfl (Nat.le_of_ble_eq_true rfl) rfl ?_
  refine y_aload0 dX3_init_44 rfl ?_
  refine y_ic (v := 0) (by decide) dX3_init_45 ?_
  refine y_put (ty := .int) (ws' := [yO h0 3 [.ref q1, .ref q2, .ref q3, .ref q4, .ref q5, .int 0, .int 0, .int 0, .int 0, .int 0], yI g q1 32, yI g q2 32, yI g q3 64, yI g q4 64, yI g q5 16]) dX3_init_46 fp_3_27 (by first | rfl | decide) (by first | rfl | decide) 0 rfl (Nat.le_of_ble_eq_true rfl) rfl ?_
  refine y_aload0 dX3_init_49 rfl ?_
  refine y_ic (v := 2) (by decide) dX3_init_50 ?_
  refine y_put (ty := .int) (ws' := [yO h0 3 [.ref q1, .ref q2, .ref q3, .ref q4, .ref q5, .int 0, .int 2, .int 0, .int 0, .int 0], yI g q1 32, yI g q2 32, yI g q3 64, yI g q4 64, yI g q5 16]) dX3_init_51 fp_3_31 (by first | rfl | decide) (by first | rfl | decide) 0 rfl (Nat.le_of_ble_eq_true rfl) rfl ?_
  refine y_aload0 dX3_init_54 rfl ?_
  refine y_ic (v := 0) (by decide) dX3_init_55 ?_
  refine y_put (ty := .int) (ws' := [yO h0 3 [.ref q1, .ref q2, .ref q3, .ref q4, .ref q5, .int 0, .int 2, .int 0, .int 0, .int 0], yI g q1 32, yI g q2 32, yI g q3 64, yI g q4 64, yI g q5 16]) dX3_init_56 fp_3_34 (by first | rfl | decide) (by first | rfl | decide) 0 rfl (Nat.le_of_ble_eq_true rfl) rfl ?_
  refine y_aload0 dX3_init_59 rfl ?_
  refine y_ic (v := 0) (by decide) dX3_init_60 ?_
  refine y_put (ty := .int) (ws' := [yO h0 3 [.ref q1, .ref q2, .ref q3, .ref q4, .ref q5, .int 0, .int 2, .int 0, .int 0, .int 0], yI g q1 32, yI g q2 32, yI g q3 64, yI g q4 64, yI g q5 16]) dX3_init_61 fp_3_37 (by first | rfl | decide) (by first | rfl | decide) 0 rfl (Nat.le_of_ble_eq_true rfl) rfl ?_
  refine y_aload0 dX3_init_64 rfl ?_
  refine y_ic (v := 1) (by decide) dX3_init_65 ?_
  refine y_put (ty := .boolean) (ws' := [yO h0 3 [.ref q1, .ref q2, .ref q3, .ref q4, .ref q5, .int 0, .int 2, .int 0, .int 0, .int 1], yI g q1 32, yI g q2 32, yI g q3 64, yI g q4 64, yI g q5 16]) dX3_init_66 fp_3_40 (by first | rfl | decide) (by first | rfl | decide) 0 rfl (Nat.le_of_ble_eq_true rfl) rfl ?_
  exact y_ret dX3_init_69 rfl (by decide) (by decide) ⟨fun k => ([h0, q1, q2, q3, q4, q5] : List Nat).getD k 0, rfl, rfl⟩
set_option maxRecDepth 20000 in
theorem yk_X2_init (g : yG) (h0 : Nat) : yCon g M_X2_init [.ref h0] [yO h0 2 [.null, .null, .null, .null, .null, .null, .null, .int 0]] (fun w => ∃ a : Nat → Nat, a 0 = h0 ∧ w = yl_X2_init g a) 7 9234 := by
  refine y_ent (by decide) rfl (Nat.le_of_ble_eq_true rfl) ?_
  show yT _ _ _ 0 [_] _ _ _ _
  refine y_aload0 dX2_init_0 rfl ?_
  refine y_obj dX2_init_1 ⟨xt 105 (by decide +kernel) rfl, by decide, by decide⟩ ?_
  refine y_aload0 dX2_init_4 rfl ?_
  refine y_sip (v := 8192) (by decide) dX2_init_5 ?_
  refine y_newI (N := 8192) (ws' := fun q1 => [yO h0 2 [.null, .null, .null, .null, .null, .null, .null, .int 0], yI g q1 8192]) dX2_init_8 (by decide) (by decide) (by decide) (by decide) (by decide) (fun _ => rfl) (fun q1 => ?_)
  refine y_putF (ty := .array .int) (ws' := [yO h0 2 [.ref q1, .null, .null, .null, .null, .null, .null, .int 0], yI g q1 8192]) dX2_init_10 fk_2_11 rfl rfl rfl (by decide +kernel) rfl rfl 0 rfl (Nat.le_of_ble_eq_true rfl) rfl ?_
  refine y_aload0 dX2_init_13 rfl ?_
  refine y_bip (v := 9) (by decide) dX2_init_14 ?_
  refine y_newI (N := 9) (ws' := fun q2 => [yO h0 2 [.ref q1, .null, .null, .null, .null, .null, .null, .int 0], yI g q1 8192, yI g q2 9]) dX2_init_16 (by decide) (by decide) (by decide) (by decide) (by decide) (fun _ => rfl) (fun q2 => ?_)
  refine y_putF (ty := .array .int) (ws' := [yO h0 2 [.ref q1, .ref q2, .null, .null, .null, .null, .null, .int 0], yI g q1 8192, yI g q2 9]) dX2_init_18 fk_2_15 rfl rfl rfl (by decide +kernel) rfl rfl 0 rfl (Nat.le_of_ble_eq_true rfl) rfl ?_
  refine y_aload0 dX2_init_21 rfl ?_
  refine y_bip (v := 9) (by decide) dX2_init_22 ?_
  refine y_newI (N := 9) (ws' := fun q3 => [yO h0 2 [.ref q1, .ref q2, .null, .null, .null, .null, .null, .int 0], yI g q1 8192, yI g q2 9, yI g q3 9]) dX2_init_24 (by decide) (by decide) (by decide) (by decide) (by decide) (fun _ => rfl) (fun q3 => ?_)
  refine y_putF (ty := .array .int) (ws' := [yO h0 2 [.ref q1, .ref q2, .ref q3, .null, .null, .null, .null, .int 0], yI g q1 8192, yI g q2 9, yI g q3 9]) dX2_init_26 fk_2_18 rfl rfl rfl (by decide +kernel) rfl rfl 0 rfl (Nat.le_of_ble_eq_true rfl) rfl ?_
  refine y_aload0 dX2_init_29 rfl ?_
  refine y_sip (v := 256) (by decide) dX2_init_30 ?_
  refine y_newI (N := 256) (ws' := fun q4 => [yO h0 2 [.ref q1, .ref q2, .ref q3, .null, .null, .null, .null, .int 0], yI g q1 8192, yI g q2 9, yI g q3 9, yI g q4 256]) dX2_init_33 (by decide) (by decide) (by decide) (by decide) (by decide) (fun _ => rfl) (fun q4 => ?_)
  refine y_putF (ty := .array .int) (ws' := [yO h0 2 [.ref q1, .ref q2, .ref q3, .ref q4, .null, .null, .null, .int 0], yI g q1 8192, yI g q2 9, yI g q3 9, yI g q4 256]) dX2_init_35 fk_2_21 rfl rfl rfl (by decide +kernel) rfl rfl 0 rfl (Nat.le_of_ble_eq_true rfl) rfl ?_
  refine y_aload0 dX2_init_38 rfl ?_
  refine y_sip (v := 256) (by decide) dX2_init_39 ?_
  refine y_newI (N := 256) (ws' := fun q5 => [yO h0 2 [.ref q1, .ref q2, .ref q3, .ref q4, .null, .null, .null, .int 0], yI g q1 8192, yI g q2 9, yI g q3 9, yI g q4 256, yI g q5 256]) dX2_init_42 (by decide) (by decide) (by decide) (by decide) (by decide) (fun _ => rfl) (fun q5 => ?_)
  refine y_putF (ty := .array .int) (ws' := [yO h0 2 [.ref q1, .ref q2, .ref q3, .ref q4, .ref q5, .null, .null, .int 0], yI g q1 8192, yI g q2 9, yI g q3 9, yI g q4 256, yI g q5 256]) dX2_init_44 fk_2_24 rfl rfl rfl (by decide +kernel) rfl rfl 0 rfl (Nat.le_of_ble_eq_true rfl) rfl ?_
  refine y_aload0 dX2_init_47 rfl ?_
  refine y_sip (v := 256) (by decide) dX2_init_48 ?_
  refine y_newI (N := 256) (ws' := fun q6 => [yO h0 2 [.ref q1, .ref q2, .ref q3, .ref q4, .ref q5, .null, .null, .int 0], yI g q1 8192, yI g q2 9, yI g q3 9, yI g q4 256, yI g q5 256, yI g q6 256]) dX2_init_51 (by decide) (by decide) (by decide) (by decide) (by decide) (fun _ => rfl) (fun q6 => ?_)
  refine y_putF (ty := .array .int) (ws' := [yO h0 2 [.ref q1, .ref q2, .ref q3, .ref q4, .ref q5, .ref q6, .null, .int 0], yI g q1 8192, yI g q2 9, yI g q3 9, yI g q4 256, yI g q5 256, yI g q6 256]) dX2_init_53 fk_2_27 rfl rfl rfl (by decide +kernel) rfl rfl 0 rfl (Nat.le_of_ble_eq_true rfl) rfl ?_
  refine y_aload0 dX2_init_56 rfl ?_
  refine y_sip (v := 256) (by decide) dX2_init_57 ?_
  refine y_newI (N := 256) (ws' := fun q7 => [yO h0 2 [.ref q1, .ref q2, .ref q3, .ref q4, .ref q5, .ref q6, .null, .int 0], yI g q1 8192, yI g q2 9, yI g q3 9, yI g q4 256, yI g q5 256, yI g q6 256, yI g q7 256]) dX2_init_60 (by decide) (by decide) (by decide) (by decide) (by decide) (fun _ => rfl) (fun q7 => ?_)
  refine y_putF (ty := .array .int) (ws' := [yO h0 2 [.ref q1, .ref q2, .ref q3, .ref q4, .ref q5, .ref q6, .ref q7, .int 0], yI g q1 8192, yI g q2 9, yI g q3 9, yI g q4 256, yI g q5 256, yI g q6 256, yI g q7 256]) dX2_init_62 fk_2_30 rfl rfl rfl (by decide +kernel) rfl rfl 0 rfl (Nat.le_of_ble_eq_true rfl) rfl ?_
  refine y_aload0 dX2_init_65 rfl ?_
  refine y_ic (v := 0) (by decide) dX2_init_66 ?_
  refine y_put (ty := .int) (ws' := [yO h0 2 [.ref q1, .ref q2, .ref q3, .ref q4, .ref q5, .ref q6, .ref q7, .int 0], yI g q1 8192, yI g q2 9, yI g q3 9, yI g q4 256, yI g q5 256, yI g q6 256, yI g q7 256]) dX2_init_67 fp_2_33 (by first | rfl | decide) (by first | rfl | decide) 0 rfl (Nat.le_of_ble_eq_true rfl) rfl ?_
  exact y_ret dX2_init_70 rfl (by decide) (by decide) ⟨fun k => ([h0, q1, q2, q3, q4, q5, q6, q7] : List Nat).getD k 0, rfl, rfl⟩
set_option maxRecDepth 20000 in
theorem yk_X1_init (g : yG) (h0 : Nat) : yCon g M_X1_init [.ref h0] [yO h0 1 [.null, .null, .int 0, .int 0]] (fun w => ∃ a : Nat → Nat, a 0 = h0 ∧ w = yl_X1_init g a) 5 10109 := by
  refine y_ent (by decide) rfl (Nat.le_of_ble_eq_true rfl) ?_
  show yT _ _ _ 0 [_] _ _ _ _
  refine y_aload0 dX1_init_0 rfl ?_
  refine y_obj dX1_init_1 ⟨xt 138 (by decide +kernel) rfl, by decide, by decide⟩ ?_
  refine y_aload0 dX1_init_4 rfl ?_
  refine y_new (ci := 0) (N := 5) (T := TX0) (C0 := RX0) (fs := [.null, .null, .null, .int 0, .int 0]) (ws' := fun q1 => [yO h0 1 [.null, .null, .int 0, .int 0], yO q1 0 [.null, .null, .null, .int 0, .int 0]]) dX1_init_5 rfl tyX0 tyX0_ok (xt 139 (by decide +kernel) rfl) yi_0 wi_0 yf_0 (by decide) (by decide) (fun _ => rfl) (fun q1 => ?_)
  refine y_dup dX1_init_8 ?_
  refine y_sip (v := 3000) (by decide) dX1_init_9 ?_
  refine y_sip (v := 4096) (by decide) dX1_init_12 ?_
  refine y_callI (F' := M_X0_init3000) (As := [.int 3000, .int 4096]) (wr := [yO h0 1 [.null, .null, .int 0, .int 0]]) dX1_init_15 yc_X0_init3000 (xt 141 (by decide +kernel) rfl) ⟨by decide, by decide⟩ rfl rfl rfl rfl (Nat.le_of_ble_eq_true rfl) rfl (yk_X0_init3000 g q1) ⟨by decide, by decide⟩ (fun w1 hw1 => ?_)
  obtain ⟨a1, rfl, rfl⟩ := hw1
  refine y_putF (ty := .object "SwitchTower$KeyTable") (ws' := [yO h0 1 [.ref (a1 0), .null, .int 0, .int 0], yO (a1 0) 0 [.ref (a1 1), .ref (a1 2), .ref (a1 3), .int 0, .int 1], yJ g (a1 1) 3000, yI g (a1 2) 3000, yI g (a1 3) 4096]) dX1_init_18 fk_1_14 rfl rfl rfl (by decide +kernel) rfl rfl 0 rfl (Nat.le_of_ble_eq_true rfl) rfl ?_
  refine y_aload0 dX1_init_21 rfl ?_
  refine y_bip (v := 8) (by decide) dX1_init_22 ?_
  refine y_newJ (N := 8) (ws' := fun q2 => [yO h0 1 [.ref (a1 0), .null, .int 0, .int 0], yO (a1 0) 0 [.ref (a1 1), .ref (a1 2), .ref (a1 3), .int 0, .int 1], yJ g (a1 1) 3000, yI g (a1 2) 3000, yI g (a1 3) 4096, yJ g q2 8]) dX1_init_24 (by decide) (by decide) (by decide) (by decide) (by decide) (fun _ => rfl) (fun q2 => ?_)
  refine y_putF (ty := .array .long) (ws' := [yO h0 1 [.ref (a1 0), .ref q2, .int 0, .int 0], yO (a1 0) 0 [.ref (a1 1), .ref (a1 2), .ref (a1 3), .int 0, .int 1], yJ g (a1 1) 3000, yI g (a1 2) 3000, yI g (a1 3) 4096, yJ g q2 8]) dX1_init_26 fk_1_20 rfl rfl rfl (by decide +kernel) rfl rfl 0 rfl (Nat.le_of_ble_eq_true rfl) rfl ?_
  refine y_aload0 dX1_init_29 rfl ?_
  refine y_ic (v := 0) (by decide) dX1_init_30 ?_
  refine y_put (ty := .int) (ws' := [yO h0 1 [.ref (a1 0), .ref q2, .int 0, .int 0], yO (a1 0) 0 [.ref (a1 1), .ref (a1 2), .ref (a1 3), .int 0, .int 1], yJ g (a1 1) 3000, yI g (a1 2) 3000, yI g (a1 3) 4096, yJ g q2 8]) dX1_init_31 fp_1_24 (by first | rfl | decide) (by first | rfl | decide) 0 rfl (Nat.le_of_ble_eq_true rfl) rfl ?_
  refine y_aload0 dX1_init_34 rfl ?_
  refine y_ic (v := 0) (by decide) dX1_init_35 ?_
  refine y_put (ty := .int) (ws' := [yO h0 1 [.ref (a1 0), .ref q2, .int 0, .int 0], yO (a1 0) 0 [.ref (a1 1), .ref (a1 2), .ref (a1 3), .int 0, .int 1], yJ g (a1 1) 3000, yI g (a1 2) 3000, yI g (a1 3) 4096, yJ g q2 8]) dX1_init_36 fp_1_28 (by first | rfl | decide) (by first | rfl | decide) 0 rfl (Nat.le_of_ble_eq_true rfl) rfl ?_
  exact y_ret dX1_init_39 rfl (by decide) (by decide) ⟨fun k => ([h0, (a1 0), (a1 1), (a1 2), (a1 3), q2] : List Nat).getD k 0, rfl, rfl⟩
set_option maxRecDepth 20000 in
theorem yk_X4_init (g : yG) (h0 : Nat) : yCon g M_X4_init [.ref h0] [yO h0 4 [.null, .null, .null, .null, .null, .null, .null, .null, .int 0, .int 0, .int 0, .int 0, .int 0]] (fun w => ∃ a : Nat → Nat, a 0 = h0 ∧ w = yl_X4_init g a) 14 6036 := by
  refine y_ent (by decide) rfl (Nat.le_of_ble_eq_true rfl) ?_
  show yT _ _ _ 0 [_] _ _ _ _
  refine y_aload0 dX4_init_0 rfl ?_
  refine y_obj dX4_init_1 ⟨xt 188 (by decide +kernel) rfl, by decide, by decide⟩ ?_
  refine y_aload0 dX4_init_4 rfl ?_
  refine y_new (ci := 0) (N := 5) (T := TX0) (C0 := RX0) (fs := [.null, .null, .null, .int 0, .int 0]) (ws' := fun q1 => [yO h0 4 [.null, .null, .null, .null, .null, .null, .null, .null, .int 0, .int 0, .int 0, .int 0, .int 0], yO q1 0 [.null, .null, .null, .int 0, .int 0]]) dX4_init_5 rfl tyX0 tyX0_ok (xt 189 (by decide +kernel) rfl) yi_0 wi_0 yf_0 (by decide) (by decide) (fun _ => rfl) (fun q1 => ?_)
  refine y_dup dX4_init_8 ?_
  refine y_sip (v := 200) (by decide) dX4_init_9 ?_
  refine y_sip (v := 512) (by decide) dX4_init_12 ?_
  refine y_callI (F' := M_X0_init200) (As := [.int 200, .int 512]) (wr := [yO h0 4 [.null, .null, .null, .null, .null, .null, .null, .null, .int 0, .int 0, .int 0, .int 0, .int 0]]) dX4_init_15 yc_X0_init200 (xt 190 (by decide +kernel) rfl) ⟨by decide, by decide⟩ rfl rfl rfl rfl (Nat.le_of_ble_eq_true rfl) rfl (yk_X0_init200 g q1) ⟨by decide, by decide⟩ (fun w1 hw1 => ?_)
  obtain ⟨a1, rfl, rfl⟩ := hw1
  refine y_putF (ty := .object "SwitchTower$KeyTable") (ws' := [yO h0 4 [.ref (a1 0), .null, .null, .null, .null, .null, .null, .null, .int 0, .int 0, .int 0, .int 0, .int 0], yO (a1 0) 0 [.ref (a1 1), .ref (a1 2), .ref (a1 3), .int 0, .int 1], yJ g (a1 1) 200, yI g (a1 2) 200, yI g (a1 3) 512]) dX4_init_18 fk_4_14 rfl rfl rfl (by decide +kernel) rfl rfl 0 rfl (Nat.le_of_ble_eq_true rfl) rfl ?_
  refine y_aload0 dX4_init_21 rfl ?_
  refine y_new (ci := 0) (N := 5) (T := TX0) (C0 := RX0) (fs := [.null, .null, .null, .int 0, .int 0]) (ws' := fun q2 => [yO h0 4 [.ref (a1 0), .null, .null, .null, .null, .null, .null, .null, .int 0, .int 0, .int 0, .int 0, .int 0], yO (a1 0) 0 [.ref (a1 1), .ref (a1 2), .ref (a1 3), .int 0, .int 1], yJ g (a1 1) 200, yI g (a1 2) 200, yI g (a1 3) 512, yO q2 0 [.null, .null, .null, .int 0, .int 0]]) dX4_init_22 rfl tyX0 tyX0_ok (xt 189 (by decide +kernel) rfl) yi_0 wi_0 yf_0 (by decide) (by decide) (fun _ => rfl) (fun q2 => ?_)
  refine y_dup dX4_init_25 ?_
  refine y_sip (v := 200) (by decide) dX4_init_26 ?_
  refine y_sip (v := 512) (by decide) dX4_init_29 ?_
  refine y_callI (F' := M_X0_init200) (As := [.int 200, .int 512]) (wr := [yO h0 4 [.ref (a1 0), .null, .null, .null, .null, .null, .null, .null, .int 0, .int 0, .int 0, .int 0, .int 0], yO (a1 0) 0 [.ref (a1 1), .ref (a1 2), .ref (a1 3), .int 0, .int 1], yJ g (a1 1) 200, yI g (a1 2) 200, yI g (a1 3) 512]) dX4_init_32 yc_X0_init200 (xt 190 (by decide +kernel) rfl) ⟨by decide, by decide⟩ rfl rfl rfl rfl (Nat.le_of_ble_eq_true rfl) rfl (yk_X0_init200 g q2) ⟨by decide, by decide⟩ (fun w1 hw1 => ?_)
  obtain ⟨a2, rfl, rfl⟩ := hw1
  refine y_putF (ty := .object "SwitchTower$KeyTable") (ws' := [yO h0 4 [.ref (a1 0), .ref (a2 0), .null, .null, .null, .null, .null, .null, .int 0, .int 0, .int 0, .int 0, .int 0], yO (a1 0) 0 [.ref (a1 1), .ref (a1 2), .ref (a1 3), .int 0, .int 1], yJ g (a1 1) 200, yI g (a1 2) 200, yI g (a1 3) 512, yO (a2 0) 0 [.ref (a2 1), .ref (a2 2), .ref (a2 3), .int 0, .int 1], yJ g (a2 1) 200, yI g (a2 2) 200, yI g (a2 3) 512]) dX4_init_35 fk_4_20 rfl rfl rfl (by decide +kernel) rfl rfl 0 rfl (Nat.le_of_ble_eq_true rfl) rfl ?_
  refine y_aload0 dX4_init_38 rfl ?_
  refine y_sip (v := 800) (by decide) dX4_init_39 ?_
  refine y_newI (N := 800) (ws' := fun q3 => [yO h0 4 [.ref (a1 0), .ref (a2 0), .null, .null, .null, .null, .null, .null, .int 0, .int 0, .int 0, .int 0, .int 0], yO (a1 0) 0 [.ref (a1 1), .ref (a1 2), .ref (a1 3), .int 0, .int 1], yJ g (a1 1) 200, yI g (a1 2) 200, yI g (a1 3) 512, yO (a2 0) 0 [.ref (a2 1), .ref (a2 2), .ref (a2 3), .int 0, .int 1], yJ g (a2 1) 200, yI g (a2 2) 200, yI g (a2 3) 512, yI g q3 800]) dX4_init_42 (by decide) (by decide) (by decide) (by decide) (by decide) (fun _ => rfl) (fun q3 => ?_)
  refine y_putF (ty := .array .int) (ws' := [yO h0 4 [.ref (a1 0), .ref (a2 0), .ref q3, .null, .null, .null, .null, .null, .int 0, .int 0, .int 0, .int 0, .int 0], yO (a1 0) 0 [.ref (a1 1), .ref (a1 2), .ref (a1 3), .int 0, .int 1], yJ g (a1 1) 200, yI g (a1 2) 200, yI g (a1 3) 512, yO (a2 0) 0 [.ref (a2 1), .ref (a2 2), .ref (a2 3), .int 0, .int 1], yJ g (a2 1) 200, yI g (a2 2) 200, yI g (a2 3) 512, yI g q3 800]) dX4_init_44 fk_4_23 rfl rfl rfl (by decide +kernel) rfl rfl 0 rfl (Nat.le_of_ble_eq_true rfl) rfl ?_
  refine y_aload0 dX4_init_47 rfl ?_
  refine y_sip (v := 200) (by decide) dX4_init_48 ?_
  refine y_newI (N := 200) (ws' := fun q4 => [yO h0 4 [.ref (a1 0), .ref (a2 0), .ref q3, .null, .null, .null, .null, .null, .int 0, .int 0, .int 0, .int 0, .int 0], yO (a1 0) 0 [.ref (a1 1), .ref (a1 2), .ref (a1 3), .int 0, .int 1], yJ g (a1 1) 200, yI g (a1 2) 200, yI g (a1 3) 512, yO (a2 0) 0 [.ref (a2 1), .ref (a2 2), .ref (a2 3), .int 0, .int 1], yJ g (a2 1) 200, yI g (a2 2) 200, yI g (a2 3) 512, yI g q3 800, yI g q4 200]) dX4_init_51 (by decide) (by decide) (by decide) (by decide) (by decide) (fun _ => rfl) (fun q4 => ?_)
  refine y_putF (ty := .array .int) (ws' := [yO h0 4 [.ref (a1 0), .ref (a2 0), .ref q3, .ref q4, .null, .null, .null, .null, .int 0, .int 0, .int 0, .int 0, .int 0], yO (a1 0) 0 [.ref (a1 1), .ref (a1 2), .ref (a1 3), .int 0, .int 1], yJ g (a1 1) 200, yI g (a1 2) 200, yI g (a1 3) 512, yO (a2 0) 0 [.ref (a2 1), .ref (a2 2), .ref (a2 3), .int 0, .int 1], yJ g (a2 1) 200, yI g (a2 2) 200, yI g (a2 3) 512, yI g q3 800, yI g q4 200]) dX4_init_53 fk_4_27 rfl rfl rfl (by decide +kernel) rfl rfl 0 rfl (Nat.le_of_ble_eq_true rfl) rfl ?_
  refine y_aload0 dX4_init_56 rfl ?_
  refine y_sip (v := 200) (by decide) dX4_init_57 ?_
  refine y_newI (N := 200) (ws' := fun q5 => [yO h0 4 [.ref (a1 0), .ref (a2 0), .ref q3, .ref q4, .null, .null, .null, .null, .int 0, .int 0, .int 0, .int 0, .int 0], yO (a1 0) 0 [.ref (a1 1), .ref (a1 2), .ref (a1 3), .int 0, .int 1], yJ g (a1 1) 200, yI g (a1 2) 200, yI g (a1 3) 512, yO (a2 0) 0 [.ref (a2 1), .ref (a2 2), .ref (a2 3), .int 0, .int 1], yJ g (a2 1) 200, yI g (a2 2) 200, yI g (a2 3) 512, yI g q3 800, yI g q4 200, yI g q5 200]) dX4_init_60 (by decide) (by decide) (by decide) (by decide) (by decide) (fun _ => rfl) (fun q5 => ?_)
  refine y_putF (ty := .array .int) (ws' := [yO h0 4 [.ref (a1 0), .ref (a2 0), .ref q3, .ref q4, .ref q5, .null, .null, .null, .int 0, .int 0, .int 0, .int 0, .int 0], yO (a1 0) 0 [.ref (a1 1), .ref (a1 2), .ref (a1 3), .int 0, .int 1], yJ g (a1 1) 200, yI g (a1 2) 200, yI g (a1 3) 512, yO (a2 0) 0 [.ref (a2 1), .ref (a2 2), .ref (a2 3), .int 0, .int 1], yJ g (a2 1) 200, yI g (a2 2) 200, yI g (a2 3) 512, yI g q3 800, yI g q4 200, yI g q5 200]) dX4_init_62 fk_4_30 rfl rfl rfl (by decide +kernel) rfl rfl 0 rfl (Nat.le_of_ble_eq_true rfl) rfl ?_
  refine y_aload0 dX4_init_65 rfl ?_
  refine y_sip (v := 200) (by decide) dX4_init_66 ?_
  refine y_newI (N := 200) (ws' := fun q6 => [yO h0 4 [.ref (a1 0), .ref (a2 0), .ref q3, .ref q4, .ref q5, .null, .null, .null, .int 0, .int 0, .int 0, .int 0, .int 0], yO (a1 0) 0 [.ref (a1 1), .ref (a1 2), .ref (a1 3), .int 0, .int 1], yJ g (a1 1) 200, yI g (a1 2) 200, yI g (a1 3) 512, yO (a2 0) 0 [.ref (a2 1), .ref (a2 2), .ref (a2 3), .int 0, .int 1], yJ g (a2 1) 200, yI g (a2 2) 200, yI g (a2 3) 512, yI g q3 800, yI g q4 200, yI g q5 200, yI g q6 200]) dX4_init_69 (by decide) (by decide) (by decide) (by decide) (by decide) (fun _ => rfl) (fun q6 => ?_)
  refine y_putF (ty := .array .int) (ws' := [yO h0 4 [.ref (a1 0), .ref (a2 0), .ref q3, .ref q4, .ref q5, .ref q6, .null, .null, .int 0, .int 0, .int 0, .int 0, .int 0], yO (a1 0) 0 [.ref (a1 1), .ref (a1 2), .ref (a1 3), .int 0, .int 1], yJ g (a1 1) 200, yI g (a1 2) 200, yI g (a1 3) 512, yO (a2 0) 0 [.ref (a2 1), .ref (a2 2), .ref (a2 3), .int 0, .int 1], yJ g (a2 1) 200, yI g (a2 2) 200, yI g (a2 3) 512, yI g q3 800, yI g q4 200, yI g q5 200, yI g q6 200]) dX4_init_71 fk_4_33 rfl rfl rfl (by decide +kernel) rfl rfl 0 rfl (Nat.le_of_ble_eq_true rfl) rfl ?_
  refine y_aload0 dX4_init_74 rfl ?_
  refine y_sip (v := 2800) (by decide) dX4_init_75 ?_
  refine y_newI (N := 2800) (ws' := fun q7 => [yO h0 4 [.ref (a1 0), .ref (a2 0), .ref q3, .ref q4, .ref q5, .ref q6, .null, .null, .int 0, .int 0, .int 0, .int 0, .int 0], yO (a1 0) 0 [.ref (a1 1), .ref (a1 2), .ref (a1 3), .int 0, .int 1], yJ g (a1 1) 200, yI g (a1 2) 200, yI g (a1 3) 512, yO (a2 0) 0 [.ref (a2 1), .ref (a2 2), .ref (a2 3), .int 0, .int 1], yJ g (a2 1) 200, yI g (a2 2) 200, yI g (a2 3) 512, yI g q3 800, yI g q4 200, yI g q5 200, yI g q6 200, yI g q7 2800]) dX4_init_78 (by decide) (by decide) (by decide) (by decide) (by decide) (fun _ => rfl) (fun q7 => ?_)
  refine y_putF (ty := .array .int) (ws' := [yO h0 4 [.ref (a1 0), .ref (a2 0), .ref q3, .ref q4, .ref q5, .ref q6, .ref q7, .null, .int 0, .int 0, .int 0, .int 0, .int 0], yO (a1 0) 0 [.ref (a1 1), .ref (a1 2), .ref (a1 3), .int 0, .int 1], yJ g (a1 1) 200, yI g (a1 2) 200, yI g (a1 3) 512, yO (a2 0) 0 [.ref (a2 1), .ref (a2 2), .ref (a2 3), .int 0, .int 1], yJ g (a2 1) 200, yI g (a2 2) 200, yI g (a2 3) 512, yI g q3 800, yI g q4 200, yI g q5 200, yI g q6 200, yI g q7 2800]) dX4_init_80 fk_4_36 rfl rfl rfl (by decide +kernel) rfl rfl 0 rfl (Nat.le_of_ble_eq_true rfl) rfl ?_
  refine y_aload0 dX4_init_83 rfl ?_
  refine y_new (ci := 7) (N := 2) (T := TX7) (C0 := RX7) (fs := [.long 0, .int 0]) (ws' := fun q8 => [yO h0 4 [.ref (a1 0), .ref (a2 0), .ref q3, .ref q4, .ref q5, .ref q6, .ref q7, .null, .int 0, .int 0, .int 0, .int 0, .int 0], yO (a1 0) 0 [.ref (a1 1), .ref (a1 2), .ref (a1 3), .int 0, .int 1], yJ g (a1 1) 200, yI g (a1 2) 200, yI g (a1 3) 512, yO (a2 0) 0 [.ref (a2 1), .ref (a2 2), .ref (a2 3), .int 0, .int 1], yJ g (a2 1) 200, yI g (a2 2) 200, yI g (a2 3) 512, yI g q3 800, yI g q4 200, yI g q5 200, yI g q6 200, yI g q7 2800, yO q8 7 [.long 0, .int 0]]) dX4_init_84 rfl tyX7 tyX7_ok (xt 191 (by decide +kernel) rfl) yi_7 wi_7 yf_7 (by decide) (by decide) (fun _ => rfl) (fun q8 => ?_)
  refine y_dup dX4_init_87 ?_
  refine y_callN (F' := M_X7_init) (As := []) (wr := [yO h0 4 [.ref (a1 0), .ref (a2 0), .ref q3, .ref q4, .ref q5, .ref q6, .ref q7, .null, .int 0, .int 0, .int 0, .int 0, .int 0], yO (a1 0) 0 [.ref (a1 1), .ref (a1 2), .ref (a1 3), .int 0, .int 1], yJ g (a1 1) 200, yI g (a1 2) 200, yI g (a1 3) 512, yO (a2 0) 0 [.ref (a2 1), .ref (a2 2), .ref (a2 3), .int 0, .int 1], yJ g (a2 1) 200, yI g (a2 2) 200, yI g (a2 3) 512, yI g q3 800, yI g q4 200, yI g q5 200, yI g q6 200, yI g q7 2800]) dX4_init_88 yc_X7_init (List.mem_of_getElem? (i := 5) rfl) ⟨by decide, by decide⟩ rfl rfl rfl rfl (Nat.le_of_ble_eq_true rfl) rfl (yk_X7_init g q8) ⟨by decide, by decide⟩ (fun w1 hw1 => ?_)
  obtain ⟨a3, rfl, rfl⟩ := hw1
  refine y_putF (ty := .object "SwitchTower$Word") (ws' := [yO h0 4 [.ref (a1 0), .ref (a2 0), .ref q3, .ref q4, .ref q5, .ref q6, .ref q7, .ref (a3 0), .int 0, .int 0, .int 0, .int 0, .int 0], yO (a1 0) 0 [.ref (a1 1), .ref (a1 2), .ref (a1 3), .int 0, .int 1], yJ g (a1 1) 200, yI g (a1 2) 200, yI g (a1 3) 512, yO (a2 0) 0 [.ref (a2 1), .ref (a2 2), .ref (a2 3), .int 0, .int 1], yJ g (a2 1) 200, yI g (a2 2) 200, yI g (a2 3) 512, yI g q3 800, yI g q4 200, yI g q5 200, yI g q6 200, yI g q7 2800, yO (a3 0) 7 [.long 0, .int 0]]) dX4_init_91 fk_4_42 rfl rfl rfl (by decide +kernel) rfl rfl 0 rfl (Nat.le_of_ble_eq_true rfl) rfl ?_
  refine y_aload0 dX4_init_94 rfl ?_
  refine y_ic (v := 0) (by decide) dX4_init_95 ?_
  refine y_put (ty := .int) (ws' := [yO h0 4 [.ref (a1 0), .ref (a2 0), .ref q3, .ref q4, .ref q5, .ref q6, .ref q7, .ref (a3 0), .int 0, .int 0, .int 0, .int 0, .int 0], yO (a1 0) 0 [.ref (a1 1), .ref (a1 2), .ref (a1 3), .int 0, .int 1], yJ g (a1 1) 200, yI g (a1 2) 200, yI g (a1 3) 512, yO (a2 0) 0 [.ref (a2 1), .ref (a2 2), .ref (a2 3), .int 0, .int 1], yJ g (a2 1) 200, yI g (a2 2) 200, yI g (a2 3) 512, yI g q3 800, yI g q4 200, yI g q5 200, yI g q6 200, yI g q7 2800, yO (a3 0) 7 [.long 0, .int 0]]) dX4_init_96 fp_4_46 (by first | rfl | decide) (by first | rfl | decide) 0 rfl (Nat.le_of_ble_eq_true rfl) rfl ?_
  refine y_aload0 dX4_init_99 rfl ?_
  refine y_ic (v := 0) (by decide) dX4_init_100 ?_
  refine y_put (ty := .int) (ws' := [yO h0 4 [.ref (a1 0), .ref (a2 0), .ref q3, .ref q4, .ref q5, .ref q6, .ref q7, .ref (a3 0), .int 0, .int 0, .int 0, .int 0, .int 0], yO (a1 0) 0 [.ref (a1 1), .ref (a1 2), .ref (a1 3), .int 0, .int 1], yJ g (a1 1) 200, yI g (a1 2) 200, yI g (a1 3) 512, yO (a2 0) 0 [.ref (a2 1), .ref (a2 2), .ref (a2 3), .int 0, .int 1], yJ g (a2 1) 200, yI g (a2 2) 200, yI g (a2 3) 512, yI g q3 800, yI g q4 200, yI g q5 200, yI g q6 200, yI g q7 2800, yO (a3 0) 7 [.long 0, .int 0]]) dX4_init_101 fp_4_50 (by first | rfl | decide) (by first | rfl | decide) 0 rfl (Nat.le_of_ble_eq_true rfl) rfl ?_
  refine y_aload0 dX4_init_104 rfl ?_
  refine y_ic (v := 0) (by decide) dX4_init_105 ?_
  refine y_put (ty := .int) (ws' := [yO h0 4 [.ref (a1 0), .ref (a2 0), .ref q3, .ref q4, .ref q5, .ref q6, .ref q7, .ref (a3 0), .int 0, .int 0, .int 0, .int 0, .int 0], yO (a1 0) 0 [.ref (a1 1), .ref (a1 2), .ref (a1 3), .int 0, .int 1], yJ g (a1 1) 200, yI g (a1 2) 200, yI g (a1 3) 512, yO (a2 0) 0 [.ref (a2 1), .ref (a2 2), .ref (a2 3), .int 0, .int 1], yJ g (a2 1) 200, yI g (a2 2) 200, yI g (a2 3) 512, yI g q3 800, yI g q4 200, yI g q5 200, yI g q6 200, yI g q7 2800, yO (a3 0) 7 [.long 0, .int 0]]) dX4_init_106 fp_4_53 (by first | rfl | decide) (by first | rfl | decide) 0 rfl (Nat.le_of_ble_eq_true rfl) rfl ?_
  refine y_aload0 dX4_init_109 rfl ?_
  refine y_ic (v := 0) (by decide) dX4_init_110 ?_
  refine y_put (ty := .int) (ws' := [yO h0 4 [.ref (a1 0), .ref (a2 0), .ref q3, .ref q4, .ref q5, .ref q6, .ref q7, .ref (a3 0), .int 0, .int 0, .int 0, .int 0, .int 0], yO (a1 0) 0 [.ref (a1 1), .ref (a1 2), .ref (a1 3), .int 0, .int 1], yJ g (a1 1) 200, yI g (a1 2) 200, yI g (a1 3) 512, yO (a2 0) 0 [.ref (a2 1), .ref (a2 2), .ref (a2 3), .int 0, .int 1], yJ g (a2 1) 200, yI g (a2 2) 200, yI g (a2 3) 512, yI g q3 800, yI g q4 200, yI g q5 200, yI g q6 200, yI g q7 2800, yO (a3 0) 7 [.long 0, .int 0]]) dX4_init_111 fp_4_56 (by first | rfl | decide) (by first | rfl | decide) 0 rfl (Nat.le_of_ble_eq_true rfl) rfl ?_
  refine y_aload0 dX4_init_114 rfl ?_
  refine y_ic (v := 0) (by decide) dX4_init_115 ?_
  refine y_put (ty := .int) (ws' := [yO h0 4 [.ref (a1 0), .ref (a2 0), .ref q3, .ref q4, .ref q5, .ref q6, .ref q7, .ref (a3 0), .int 0, .int 0, .int 0, .int 0, .int 0], yO (a1 0) 0 [.ref (a1 1), .ref (a1 2), .ref (a1 3), .int 0, .int 1], yJ g (a1 1) 200, yI g (a1 2) 200, yI g (a1 3) 512, yO (a2 0) 0 [.ref (a2 1), .ref (a2 2), .ref (a2 3), .int 0, .int 1], yJ g (a2 1) 200, yI g (a2 2) 200, yI g (a2 3) 512, yI g q3 800, yI g q4 200, yI g q5 200, yI g q6 200, yI g q7 2800, yO (a3 0) 7 [.long 0, .int 0]]) dX4_init_116 fp_4_59 (by first | rfl | decide) (by first | rfl | decide) 0 rfl (Nat.le_of_ble_eq_true rfl) rfl ?_
  exact y_ret dX4_init_119 rfl (by decide) (by decide) ⟨fun k => ([h0, (a1 0), (a1 1), (a1 2), (a1 3), (a2 0), (a2 1), (a2 2), (a2 3), q3, q4, q5, q6, q7, (a3 0)] : List Nat).getD k 0, rfl, rfl⟩
set_option maxRecDepth 20000 in
theorem yk_X6_init (g : yG) (h0 : Nat) : yCon g M_X6_init [.ref h0] [yO h0 6 [.null, .null, .null, .null, .null, .null, .int 0, .int 0, .int 0, .int 0]] (fun w => ∃ a : Nat → Nat, a 0 = h0 ∧ w = yl_X6_init g a) 20 6529 := by
  refine y_ent (by decide) rfl (Nat.le_of_ble_eq_true rfl) ?_
  show yT _ _ _ 0 [_] _ _ _ _
  refine y_aload0 dX6_init_0 rfl ?_
  refine y_obj dX6_init_1 ⟨xt 242 (by decide +kernel) rfl, by decide, by decide⟩ ?_
  refine y_aload0 dX6_init_4 rfl ?_
  refine y_new (ci := 4) (N := 13) (T := TX4) (C0 := RX4) (fs := [.null, .null, .null, .null, .null, .null, .null, .null, .int 0, .int 0, .int 0, .int 0, .int 0]) (ws' := fun q1 => [yO h0 6 [.null, .null, .null, .null, .null, .null, .int 0, .int 0, .int 0, .int 0], yO q1 4 [.null, .null, .null, .null, .null, .null, .null, .null, .int 0, .int 0, .int 0, .int 0, .int 0]]) dX6_init_5 rfl tyX4 tyX4_ok (xt 243 (by decide +kernel) rfl) yi_4 wi_4 yf_4 (by decide) (by decide) (fun _ => rfl) (fun q1 => ?_)
  refine y_dup dX6_init_8 ?_
  refine y_callN (F' := M_X4_init) (As := []) (wr := [yO h0 6 [.null, .null, .null, .null, .null, .null, .int 0, .int 0, .int 0, .int 0]]) dX6_init_9 yc_X4_init (List.mem_of_getElem? (i := 7) rfl) ⟨by decide, by decide⟩ rfl rfl rfl rfl (Nat.le_of_ble_eq_true rfl) rfl (yk_X4_init g q1) ⟨by decide, by decide⟩ (fun w1 hw1 => ?_)
  obtain ⟨a1, rfl, rfl⟩ := hw1
  refine y_putF (ty := .object "SwitchTower$Pool") (ws' := [yO h0 6 [.ref (a1 0), .null, .null, .null, .null, .null, .int 0, .int 0, .int 0, .int 0], yO (a1 0) 4 [.ref (a1 1), .ref (a1 5), .ref (a1 9), .ref (a1 10), .ref (a1 11), .ref (a1 12), .ref (a1 13), .ref (a1 14), .int 0, .int 0, .int 0, .int 0, .int 0], yO (a1 1) 0 [.ref (a1 2), .ref (a1 3), .ref (a1 4), .int 0, .int 1], yJ g (a1 2) 200, yI g (a1 3) 200, yI g (a1 4) 512, yO (a1 5) 0 [.ref (a1 6), .ref (a1 7), .ref (a1 8), .int 0, .int 1], yJ g (a1 6) 200, yI g (a1 7) 200, yI g (a1 8) 512, yI g (a1 9) 800, yI g (a1 10) 200, yI g (a1 11) 200, yI g (a1 12) 200, yI g (a1 13) 2800, yO (a1 14) 7 [.long 0, .int 0]]) dX6_init_12 fk_6_12 rfl rfl rfl (by decide +kernel) rfl rfl 0 rfl (Nat.le_of_ble_eq_true rfl) rfl ?_
  refine y_aload0 dX6_init_15 rfl ?_
  refine y_new (ci := 7) (N := 2) (T := TX7) (C0 := RX7) (fs := [.long 0, .int 0]) (ws' := fun q2 => [yO h0 6 [.ref (a1 0), .null, .null, .null, .null, .null, .int 0, .int 0, .int 0, .int 0], yO (a1 0) 4 [.ref (a1 1), .ref (a1 5), .ref (a1 9), .ref (a1 10), .ref (a1 11), .ref (a1 12), .ref (a1 13), .ref (a1 14), .int 0, .int 0, .int 0, .int 0, .int 0], yO (a1 1) 0 [.ref (a1 2), .ref (a1 3), .ref (a1 4), .int 0, .int 1], yJ g (a1 2) 200, yI g (a1 3) 200, yI g (a1 4) 512, yO (a1 5) 0 [.ref (a1 6), .ref (a1 7), .ref (a1 8), .int 0, .int 1], yJ g (a1 6) 200, yI g (a1 7) 200, yI g (a1 8) 512, yI g (a1 9) 800, yI g (a1 10) 200, yI g (a1 11) 200, yI g (a1 12) 200, yI g (a1 13) 2800, yO (a1 14) 7 [.long 0, .int 0], yO q2 7 [.long 0, .int 0]]) dX6_init_16 rfl tyX7 tyX7_ok (xt 245 (by decide +kernel) rfl) yi_7 wi_7 yf_7 (by decide) (by decide) (fun _ => rfl) (fun q2 => ?_)
  refine y_dup dX6_init_19 ?_
  refine y_callN (F' := M_X7_init) (As := []) (wr := [yO h0 6 [.ref (a1 0), .null, .null, .null, .null, .null, .int 0, .int 0, .int 0, .int 0], yO (a1 0) 4 [.ref (a1 1), .ref (a1 5), .ref (a1 9), .ref (a1 10), .ref (a1 11), .ref (a1 12), .ref (a1 13), .ref (a1 14), .int 0, .int 0, .int 0, .int 0, .int 0], yO (a1 1) 0 [.ref (a1 2), .ref (a1 3), .ref (a1 4), .int 0, .int 1], yJ g (a1 2) 200, yI g (a1 3) 200, yI g (a1 4) 512, yO (a1 5) 0 [.ref (a1 6), .ref (a1 7), .ref (a1 8), .int 0, .int 1], yJ g (a1 6) 200, yI g (a1 7) 200, yI g (a1 8) 512, yI g (a1 9) 800, yI g (a1 10) 200, yI g (a1 11) 200, yI g (a1 12) 200, yI g (a1 13) 2800, yO (a1 14) 7 [.long 0, .int 0]]) dX6_init_20 yc_X7_init (List.mem_of_getElem? (i := 8) rfl) ⟨by decide, by decide⟩ rfl rfl rfl rfl (Nat.le_of_ble_eq_true rfl) rfl (yk_X7_init g q2) ⟨by decide, by decide⟩ (fun w1 hw1 => ?_)
  obtain ⟨a2, rfl, rfl⟩ := hw1
  refine y_putF (ty := .object "SwitchTower$Word") (ws' := [yO h0 6 [.ref (a1 0), .ref (a2 0), .null, .null, .null, .null, .int 0, .int 0, .int 0, .int 0], yO (a1 0) 4 [.ref (a1 1), .ref (a1 5), .ref (a1 9), .ref (a1 10), .ref (a1 11), .ref (a1 12), .ref (a1 13), .ref (a1 14), .int 0, .int 0, .int 0, .int 0, .int 0], yO (a1 1) 0 [.ref (a1 2), .ref (a1 3), .ref (a1 4), .int 0, .int 1], yJ g (a1 2) 200, yI g (a1 3) 200, yI g (a1 4) 512, yO (a1 5) 0 [.ref (a1 6), .ref (a1 7), .ref (a1 8), .int 0, .int 1], yJ g (a1 6) 200, yI g (a1 7) 200, yI g (a1 8) 512, yI g (a1 9) 800, yI g (a1 10) 200, yI g (a1 11) 200, yI g (a1 12) 200, yI g (a1 13) 2800, yO (a1 14) 7 [.long 0, .int 0], yO (a2 0) 7 [.long 0, .int 0]]) dX6_init_23 fk_6_21 rfl rfl rfl (by decide +kernel) rfl rfl 0 rfl (Nat.le_of_ble_eq_true rfl) rfl ?_
  refine y_aload0 dX6_init_26 rfl ?_
  refine y_new (ci := 7) (N := 2) (T := TX7) (C0 := RX7) (fs := [.long 0, .int 0]) (ws' := fun q3 => [yO h0 6 [.ref (a1 0), .ref (a2 0), .null, .null, .null, .null, .int 0, .int 0, .int 0, .int 0], yO (a1 0) 4 [.ref (a1 1), .ref (a1 5), .ref (a1 9), .ref (a1 10), .ref (a1 11), .ref (a1 12), .ref (a1 13), .ref (a1 14), .int 0, .int 0, .int 0, .int 0, .int 0], yO (a1 1) 0 [.ref (a1 2), .ref (a1 3), .ref (a1 4), .int 0, .int 1], yJ g (a1 2) 200, yI g (a1 3) 200, yI g (a1 4) 512, yO (a1 5) 0 [.ref (a1 6), .ref (a1 7), .ref (a1 8), .int 0, .int 1], yJ g (a1 6) 200, yI g (a1 7) 200, yI g (a1 8) 512, yI g (a1 9) 800, yI g (a1 10) 200, yI g (a1 11) 200, yI g (a1 12) 200, yI g (a1 13) 2800, yO (a1 14) 7 [.long 0, .int 0], yO (a2 0) 7 [.long 0, .int 0], yO q3 7 [.long 0, .int 0]]) dX6_init_27 rfl tyX7 tyX7_ok (xt 245 (by decide +kernel) rfl) yi_7 wi_7 yf_7 (by decide) (by decide) (fun _ => rfl) (fun q3 => ?_)
  refine y_dup dX6_init_30 ?_
  refine y_callN (F' := M_X7_init) (As := []) (wr := [yO h0 6 [.ref (a1 0), .ref (a2 0), .null, .null, .null, .null, .int 0, .int 0, .int 0, .int 0], yO (a1 0) 4 [.ref (a1 1), .ref (a1 5), .ref (a1 9), .ref (a1 10), .ref (a1 11), .ref (a1 12), .ref (a1 13), .ref (a1 14), .int 0, .int 0, .int 0, .int 0, .int 0], yO (a1 1) 0 [.ref (a1 2), .ref (a1 3), .ref (a1 4), .int 0, .int 1], yJ g (a1 2) 200, yI g (a1 3) 200, yI g (a1 4) 512, yO (a1 5) 0 [.ref (a1 6), .ref (a1 7), .ref (a1 8), .int 0, .int 1], yJ g (a1 6) 200, yI g (a1 7) 200, yI g (a1 8) 512, yI g (a1 9) 800, yI g (a1 10) 200, yI g (a1 11) 200, yI g (a1 12) 200, yI g (a1 13) 2800, yO (a1 14) 7 [.long 0, .int 0], yO (a2 0) 7 [.long 0, .int 0]]) dX6_init_31 yc_X7_init (List.mem_of_getElem? (i := 8) rfl) ⟨by decide, by decide⟩ rfl rfl rfl rfl (Nat.le_of_ble_eq_true rfl) rfl (yk_X7_init g q3) ⟨by decide, by decide⟩ (fun w1 hw1 => ?_)
  obtain ⟨a3, rfl, rfl⟩ := hw1
  refine y_putF (ty := .object "SwitchTower$Word") (ws' := [yO h0 6 [.ref (a1 0), .ref (a2 0), .ref (a3 0), .null, .null, .null, .int 0, .int 0, .int 0, .int 0], yO (a1 0) 4 [.ref (a1 1), .ref (a1 5), .ref (a1 9), .ref (a1 10), .ref (a1 11), .ref (a1 12), .ref (a1 13), .ref (a1 14), .int 0, .int 0, .int 0, .int 0, .int 0], yO (a1 1) 0 [.ref (a1 2), .ref (a1 3), .ref (a1 4), .int 0, .int 1], yJ g (a1 2) 200, yI g (a1 3) 200, yI g (a1 4) 512, yO (a1 5) 0 [.ref (a1 6), .ref (a1 7), .ref (a1 8), .int 0, .int 1], yJ g (a1 6) 200, yI g (a1 7) 200, yI g (a1 8) 512, yI g (a1 9) 800, yI g (a1 10) 200, yI g (a1 11) 200, yI g (a1 12) 200, yI g (a1 13) 2800, yO (a1 14) 7 [.long 0, .int 0], yO (a2 0) 7 [.long 0, .int 0], yO (a3 0) 7 [.long 0, .int 0]]) dX6_init_34 fk_6_25 rfl rfl rfl (by decide +kernel) rfl rfl 0 rfl (Nat.le_of_ble_eq_true rfl) rfl ?_
  refine y_aload0 dX6_init_37 rfl ?_
  refine y_bip (v := 20) (by decide) dX6_init_38 ?_
  refine y_newI (N := 20) (ws' := fun q4 => [yO h0 6 [.ref (a1 0), .ref (a2 0), .ref (a3 0), .null, .null, .null, .int 0, .int 0, .int 0, .int 0], yO (a1 0) 4 [.ref (a1 1), .ref (a1 5), .ref (a1 9), .ref (a1 10), .ref (a1 11), .ref (a1 12), .ref (a1 13), .ref (a1 14), .int 0, .int 0, .int 0, .int 0, .int 0], yO (a1 1) 0 [.ref (a1 2), .ref (a1 3), .ref (a1 4), .int 0, .int 1], yJ g (a1 2) 200, yI g (a1 3) 200, yI g (a1 4) 512, yO (a1 5) 0 [.ref (a1 6), .ref (a1 7), .ref (a1 8), .int 0, .int 1], yJ g (a1 6) 200, yI g (a1 7) 200, yI g (a1 8) 512, yI g (a1 9) 800, yI g (a1 10) 200, yI g (a1 11) 200, yI g (a1 12) 200, yI g (a1 13) 2800, yO (a1 14) 7 [.long 0, .int 0], yO (a2 0) 7 [.long 0, .int 0], yO (a3 0) 7 [.long 0, .int 0], yI g q4 20]) dX6_init_40 (by decide) (by decide) (by decide) (by decide) (by decide) (fun _ => rfl) (fun q4 => ?_)
  refine y_putF (ty := .array .int) (ws' := [yO h0 6 [.ref (a1 0), .ref (a2 0), .ref (a3 0), .ref q4, .null, .null, .int 0, .int 0, .int 0, .int 0], yO (a1 0) 4 [.ref (a1 1), .ref (a1 5), .ref (a1 9), .ref (a1 10), .ref (a1 11), .ref (a1 12), .ref (a1 13), .ref (a1 14), .int 0, .int 0, .int 0, .int 0, .int 0], yO (a1 1) 0 [.ref (a1 2), .ref (a1 3), .ref (a1 4), .int 0, .int 1], yJ g (a1 2) 200, yI g (a1 3) 200, yI g (a1 4) 512, yO (a1 5) 0 [.ref (a1 6), .ref (a1 7), .ref (a1 8), .int 0, .int 1], yJ g (a1 6) 200, yI g (a1 7) 200, yI g (a1 8) 512, yI g (a1 9) 800, yI g (a1 10) 200, yI g (a1 11) 200, yI g (a1 12) 200, yI g (a1 13) 2800, yO (a1 14) 7 [.long 0, .int 0], yO (a2 0) 7 [.long 0, .int 0], yO (a3 0) 7 [.long 0, .int 0], yI g q4 20]) dX6_init_42 fk_6_28 rfl rfl rfl (by decide +kernel) rfl rfl 0 rfl (Nat.le_of_ble_eq_true rfl) rfl ?_
  refine y_aload0 dX6_init_45 rfl ?_
  refine y_sip (v := 256) (by decide) dX6_init_46 ?_
  refine y_newI (N := 256) (ws' := fun q5 => [yO h0 6 [.ref (a1 0), .ref (a2 0), .ref (a3 0), .ref q4, .null, .null, .int 0, .int 0, .int 0, .int 0], yO (a1 0) 4 [.ref (a1 1), .ref (a1 5), .ref (a1 9), .ref (a1 10), .ref (a1 11), .ref (a1 12), .ref (a1 13), .ref (a1 14), .int 0, .int 0, .int 0, .int 0, .int 0], yO (a1 1) 0 [.ref (a1 2), .ref (a1 3), .ref (a1 4), .int 0, .int 1], yJ g (a1 2) 200, yI g (a1 3) 200, yI g (a1 4) 512, yO (a1 5) 0 [.ref (a1 6), .ref (a1 7), .ref (a1 8), .int 0, .int 1], yJ g (a1 6) 200, yI g (a1 7) 200, yI g (a1 8) 512, yI g (a1 9) 800, yI g (a1 10) 200, yI g (a1 11) 200, yI g (a1 12) 200, yI g (a1 13) 2800, yO (a1 14) 7 [.long 0, .int 0], yO (a2 0) 7 [.long 0, .int 0], yO (a3 0) 7 [.long 0, .int 0], yI g q4 20, yI g q5 256]) dX6_init_49 (by decide) (by decide) (by decide) (by decide) (by decide) (fun _ => rfl) (fun q5 => ?_)
  refine y_putF (ty := .array .int) (ws' := [yO h0 6 [.ref (a1 0), .ref (a2 0), .ref (a3 0), .ref q4, .ref q5, .null, .int 0, .int 0, .int 0, .int 0], yO (a1 0) 4 [.ref (a1 1), .ref (a1 5), .ref (a1 9), .ref (a1 10), .ref (a1 11), .ref (a1 12), .ref (a1 13), .ref (a1 14), .int 0, .int 0, .int 0, .int 0, .int 0], yO (a1 1) 0 [.ref (a1 2), .ref (a1 3), .ref (a1 4), .int 0, .int 1], yJ g (a1 2) 200, yI g (a1 3) 200, yI g (a1 4) 512, yO (a1 5) 0 [.ref (a1 6), .ref (a1 7), .ref (a1 8), .int 0, .int 1], yJ g (a1 6) 200, yI g (a1 7) 200, yI g (a1 8) 512, yI g (a1 9) 800, yI g (a1 10) 200, yI g (a1 11) 200, yI g (a1 12) 200, yI g (a1 13) 2800, yO (a1 14) 7 [.long 0, .int 0], yO (a2 0) 7 [.long 0, .int 0], yO (a3 0) 7 [.long 0, .int 0], yI g q4 20, yI g q5 256]) dX6_init_51 fk_6_32 rfl rfl rfl (by decide +kernel) rfl rfl 0 rfl (Nat.le_of_ble_eq_true rfl) rfl ?_
  refine y_aload0 dX6_init_54 rfl ?_
  refine y_sip (v := 200) (by decide) dX6_init_55 ?_
  refine y_newI (N := 200) (ws' := fun q6 => [yO h0 6 [.ref (a1 0), .ref (a2 0), .ref (a3 0), .ref q4, .ref q5, .null, .int 0, .int 0, .int 0, .int 0], yO (a1 0) 4 [.ref (a1 1), .ref (a1 5), .ref (a1 9), .ref (a1 10), .ref (a1 11), .ref (a1 12), .ref (a1 13), .ref (a1 14), .int 0, .int 0, .int 0, .int 0, .int 0], yO (a1 1) 0 [.ref (a1 2), .ref (a1 3), .ref (a1 4), .int 0, .int 1], yJ g (a1 2) 200, yI g (a1 3) 200, yI g (a1 4) 512, yO (a1 5) 0 [.ref (a1 6), .ref (a1 7), .ref (a1 8), .int 0, .int 1], yJ g (a1 6) 200, yI g (a1 7) 200, yI g (a1 8) 512, yI g (a1 9) 800, yI g (a1 10) 200, yI g (a1 11) 200, yI g (a1 12) 200, yI g (a1 13) 2800, yO (a1 14) 7 [.long 0, .int 0], yO (a2 0) 7 [.long 0, .int 0], yO (a3 0) 7 [.long 0, .int 0], yI g q4 20, yI g q5 256, yI g q6 200]) dX6_init_58 (by decide) (by decide) (by decide) (by decide) (by decide) (fun _ => rfl) (fun q6 => ?_)
  refine y_putF (ty := .array .int) (ws' := [yO h0 6 [.ref (a1 0), .ref (a2 0), .ref (a3 0), .ref q4, .ref q5, .ref q6, .int 0, .int 0, .int 0, .int 0], yO (a1 0) 4 [.ref (a1 1), .ref (a1 5), .ref (a1 9), .ref (a1 10), .ref (a1 11), .ref (a1 12), .ref (a1 13), .ref (a1 14), .int 0, .int 0, .int 0, .int 0, .int 0], yO (a1 1) 0 [.ref (a1 2), .ref (a1 3), .ref (a1 4), .int 0, .int 1], yJ g (a1 2) 200, yI g (a1 3) 200, yI g (a1 4) 512, yO (a1 5) 0 [.ref (a1 6), .ref (a1 7), .ref (a1 8), .int 0, .int 1], yJ g (a1 6) 200, yI g (a1 7) 200, yI g (a1 8) 512, yI g (a1 9) 800, yI g (a1 10) 200, yI g (a1 11) 200, yI g (a1 12) 200, yI g (a1 13) 2800, yO (a1 14) 7 [.long 0, .int 0], yO (a2 0) 7 [.long 0, .int 0], yO (a3 0) 7 [.long 0, .int 0], yI g q4 20, yI g q5 256, yI g q6 200]) dX6_init_60 fk_6_35 rfl rfl rfl (by decide +kernel) rfl rfl 0 rfl (Nat.le_of_ble_eq_true rfl) rfl ?_
  refine y_aload0 dX6_init_63 rfl ?_
  refine y_ic (v := 0) (by decide) dX6_init_64 ?_
  refine y_put (ty := .int) (ws' := [yO h0 6 [.ref (a1 0), .ref (a2 0), .ref (a3 0), .ref q4, .ref q5, .ref q6, .int 0, .int 0, .int 0, .int 0], yO (a1 0) 4 [.ref (a1 1), .ref (a1 5), .ref (a1 9), .ref (a1 10), .ref (a1 11), .ref (a1 12), .ref (a1 13), .ref (a1 14), .int 0, .int 0, .int 0, .int 0, .int 0], yO (a1 1) 0 [.ref (a1 2), .ref (a1 3), .ref (a1 4), .int 0, .int 1], yJ g (a1 2) 200, yI g (a1 3) 200, yI g (a1 4) 512, yO (a1 5) 0 [.ref (a1 6), .ref (a1 7), .ref (a1 8), .int 0, .int 1], yJ g (a1 6) 200, yI g (a1 7) 200, yI g (a1 8) 512, yI g (a1 9) 800, yI g (a1 10) 200, yI g (a1 11) 200, yI g (a1 12) 200, yI g (a1 13) 2800, yO (a1 14) 7 [.long 0, .int 0], yO (a2 0) 7 [.long 0, .int 0], yO (a3 0) 7 [.long 0, .int 0], yI g q4 20, yI g q5 256, yI g q6 200]) dX6_init_65 fp_6_38 (by first | rfl | decide) (by first | rfl | decide) 0 rfl (Nat.le_of_ble_eq_true rfl) rfl ?_
  refine y_aload0 dX6_init_68 rfl ?_
  refine y_ic (v := 0) (by decide) dX6_init_69 ?_
  refine y_put (ty := .int) (ws' := [yO h0 6 [.ref (a1 0), .ref (a2 0), .ref (a3 0), .ref q4, .ref q5, .ref q6, .int 0, .int 0, .int 0, .int 0], yO (a1 0) 4 [.ref (a1 1), .ref (a1 5), .ref (a1 9), .ref (a1 10), .ref (a1 11), .ref (a1 12), .ref (a1 13), .ref (a1 14), .int 0, .int 0, .int 0, .int 0, .int 0], yO (a1 1) 0 [.ref (a1 2), .ref (a1 3), .ref (a1 4), .int 0, .int 1], yJ g (a1 2) 200, yI g (a1 3) 200, yI g (a1 4) 512, yO (a1 5) 0 [.ref (a1 6), .ref (a1 7), .ref (a1 8), .int 0, .int 1], yJ g (a1 6) 200, yI g (a1 7) 200, yI g (a1 8) 512, yI g (a1 9) 800, yI g (a1 10) 200, yI g (a1 11) 200, yI g (a1 12) 200, yI g (a1 13) 2800, yO (a1 14) 7 [.long 0, .int 0], yO (a2 0) 7 [.long 0, .int 0], yO (a3 0) 7 [.long 0, .int 0], yI g q4 20, yI g q5 256, yI g q6 200]) dX6_init_70 fp_6_42 (by first | rfl | decide) (by first | rfl | decide) 0 rfl (Nat.le_of_ble_eq_true rfl) rfl ?_
  refine y_aload0 dX6_init_73 rfl ?_
  refine y_ic (v := 0) (by decide) dX6_init_74 ?_
  refine y_put (ty := .int) (ws' := [yO h0 6 [.ref (a1 0), .ref (a2 0), .ref (a3 0), .ref q4, .ref q5, .ref q6, .int 0, .int 0, .int 0, .int 0], yO (a1 0) 4 [.ref (a1 1), .ref (a1 5), .ref (a1 9), .ref (a1 10), .ref (a1 11), .ref (a1 12), .ref (a1 13), .ref (a1 14), .int 0, .int 0, .int 0, .int 0, .int 0], yO (a1 1) 0 [.ref (a1 2), .ref (a1 3), .ref (a1 4), .int 0, .int 1], yJ g (a1 2) 200, yI g (a1 3) 200, yI g (a1 4) 512, yO (a1 5) 0 [.ref (a1 6), .ref (a1 7), .ref (a1 8), .int 0, .int 1], yJ g (a1 6) 200, yI g (a1 7) 200, yI g (a1 8) 512, yI g (a1 9) 800, yI g (a1 10) 200, yI g (a1 11) 200, yI g (a1 12) 200, yI g (a1 13) 2800, yO (a1 14) 7 [.long 0, .int 0], yO (a2 0) 7 [.long 0, .int 0], yO (a3 0) 7 [.long 0, .int 0], yI g q4 20, yI g q5 256, yI g q6 200]) dX6_init_75 fp_6_45 (by first | rfl | decide) (by first | rfl | decide) 0 rfl (Nat.le_of_ble_eq_true rfl) rfl ?_
  refine y_aload0 dX6_init_78 rfl ?_
  refine y_ic (v := 0) (by decide) dX6_init_79 ?_
  refine y_put (ty := .boolean) (ws' := [yO h0 6 [.ref (a1 0), .ref (a2 0), .ref (a3 0), .ref q4, .ref q5, .ref q6, .int 0, .int 0, .int 0, .int 0], yO (a1 0) 4 [.ref (a1 1), .ref (a1 5), .ref (a1 9), .ref (a1 10), .ref (a1 11), .ref (a1 12), .ref (a1 13), .ref (a1 14), .int 0, .int 0, .int 0, .int 0, .int 0], yO (a1 1) 0 [.ref (a1 2), .ref (a1 3), .ref (a1 4), .int 0, .int 1], yJ g (a1 2) 200, yI g (a1 3) 200, yI g (a1 4) 512, yO (a1 5) 0 [.ref (a1 6), .ref (a1 7), .ref (a1 8), .int 0, .int 1], yJ g (a1 6) 200, yI g (a1 7) 200, yI g (a1 8) 512, yI g (a1 9) 800, yI g (a1 10) 200, yI g (a1 11) 200, yI g (a1 12) 200, yI g (a1 13) 2800, yO (a1 14) 7 [.long 0, .int 0], yO (a2 0) 7 [.long 0, .int 0], yO (a3 0) 7 [.long 0, .int 0], yI g q4 20, yI g q5 256, yI g q6 200]) dX6_init_80 fp_6_48 (by first | rfl | decide) (by first | rfl | decide) 0 rfl (Nat.le_of_ble_eq_true rfl) rfl ?_
  exact y_ret dX6_init_83 rfl (by decide) (by decide) ⟨fun k => ([h0, (a1 0), (a1 1), (a1 2), (a1 3), (a1 4), (a1 5), (a1 6), (a1 7), (a1 8), (a1 9), (a1 10), (a1 11), (a1 12), (a1 13), (a1 14), (a2 0), (a3 0), q4, q5, q6] : List Nat).getD k 0, rfl, rfl⟩
