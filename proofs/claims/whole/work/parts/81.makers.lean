set_option maxHeartbeats 4000000 in
set_option maxRecDepth 100000 in
theorem k_X0_init {l : Launch} {D : va_G} {t : Nat → ClassId} {q0 : Nat} : cm l D (jT t) yX0_init cX0_init 1 none { frames := 1, cells := 4, slots := 1920, locals := 20 } [.ref q0] [(q0, .inr (4, [.int 0, .null, .null, .null, .null]))] (fun v w => v = none ∧ ∃ z : Nat → Nat, z 0 = q0 ∧ w = wB t z 0 0 (fun _ => 0) (fun _ => 0) (fun _ => 0) (fun _ => 0)) := by
  refine cmI_of RX0 rfl rfl (by decide +kernel) (Nat.le_of_ble_eq_true rfl) (fun X hX hE hi => ?_)
  change J X 0 0 [(q0, .inr (4, [.int 0, .null, .null, .null, .null]))] 0 [(0, .ref q0)] []
  refine j_aload_n hX dX0_init_0 rfl 0 rfl ?_
  refine j_objInit hX q84 dX0_init_1 (Nat.le_of_ble_eq_true rfl) ⟨by decide, by decide⟩ ?_
  refine j_aload_n hX dX0_init_4 rfl 0 rfl ?_
  refine j_iconst hX 0 dX0_init_5 (by decide) ?_
  refine j_put hX [(q0, .inr (4, [.int 0, .null, .null, .null, .null]))] tyX0 dX0_init_6 inX0 tyX0_ok nmX0 0 q85 0 rfl rfl (by decide) rfl rfl rfl rfl rfl (Nat.le_of_ble_eq_true rfl) rfl ?_
  refine j_aload_n hX dX0_init_9 rfl 0 rfl ?_
  refine j_sipush hX 480 dX0_init_10 (by decide) ?_
  refine j_newa (atype := .int) hX 0 rfl qAint rfl (480, .inl (fun _ => 0)) (fun _ => rfl) (by decide) (by decide) (Nat.le_of_ble_eq_true rfl) ⟨Nat.le_of_ble_eq_true rfl, Nat.le_of_ble_eq_true rfl⟩ dX0_init_13 (fun qq1 => ?_)
  change J X 1 480 [(q0, .inr (4, [.int 0, .null, .null, .null, .null])), (qq1, .inl (t 0, 480, .inl (fun _ => 0)))] 15 [(0, .ref q0)] [.ref qq1, .ref q0]
  refine j_putF hX hi [(q0, .inr (4, [.int 0, .ref qq1, .null, .null, .null])), (qq1, .inl (t 0, 480, .inl (fun _ => 0)))] tyX0 dX0_init_15 inX0 tyX0_ok nmX0 1 q86 0 rfl rfl (by decide) rfl rfl rfl rfl rfl rfl (Nat.le_of_ble_eq_true rfl) rfl ?_
  refine j_aload_n hX dX0_init_18 rfl 0 rfl ?_
  refine j_sipush hX 480 dX0_init_19 (by decide) ?_
  refine j_newa (atype := .int) hX 0 rfl qAint rfl (480, .inl (fun _ => 0)) (fun _ => rfl) (by decide) (by decide) (Nat.le_of_ble_eq_true rfl) ⟨Nat.le_of_ble_eq_true rfl, Nat.le_of_ble_eq_true rfl⟩ dX0_init_22 (fun qq2 => ?_)
  change J X 2 960 [(q0, .inr (4, [.int 0, .ref qq1, .null, .null, .null])), (qq1, .inl (t 0, 480, .inl (fun _ => 0))), (qq2, .inl (t 0, 480, .inl (fun _ => 0)))] 24 [(0, .ref q0)] [.ref qq2, .ref q0]
  refine j_putF hX hi [(q0, .inr (4, [.int 0, .ref qq1, .ref qq2, .null, .null])), (qq1, .inl (t 0, 480, .inl (fun _ => 0))), (qq2, .inl (t 0, 480, .inl (fun _ => 0)))] tyX0 dX0_init_24 inX0 tyX0_ok nmX0 2 q87 0 rfl rfl (by decide) rfl rfl rfl rfl rfl rfl (Nat.le_of_ble_eq_true rfl) rfl ?_
  refine j_aload_n hX dX0_init_27 rfl 0 rfl ?_
  refine j_sipush hX 480 dX0_init_28 (by decide) ?_
  refine j_newa (atype := .int) hX 0 rfl qAint rfl (480, .inl (fun _ => 0)) (fun _ => rfl) (by decide) (by decide) (Nat.le_of_ble_eq_true rfl) ⟨Nat.le_of_ble_eq_true rfl, Nat.le_of_ble_eq_true rfl⟩ dX0_init_31 (fun qq3 => ?_)
  change J X 3 1440 [(q0, .inr (4, [.int 0, .ref qq1, .ref qq2, .null, .null])), (qq1, .inl (t 0, 480, .inl (fun _ => 0))), (qq2, .inl (t 0, 480, .inl (fun _ => 0))), (qq3, .inl (t 0, 480, .inl (fun _ => 0)))] 33 [(0, .ref q0)] [.ref qq3, .ref q0]
  refine j_putF hX hi [(q0, .inr (4, [.int 0, .ref qq1, .ref qq2, .ref qq3, .null])), (qq1, .inl (t 0, 480, .inl (fun _ => 0))), (qq2, .inl (t 0, 480, .inl (fun _ => 0))), (qq3, .inl (t 0, 480, .inl (fun _ => 0)))] tyX0 dX0_init_33 inX0 tyX0_ok nmX0 3 q88 0 rfl rfl (by decide) rfl rfl rfl rfl rfl rfl (Nat.le_of_ble_eq_true rfl) rfl ?_
  refine j_aload_n hX dX0_init_36 rfl 0 rfl ?_
  refine j_sipush hX 480 dX0_init_37 (by decide) ?_
  refine j_newa (atype := .int) hX 0 rfl qAint rfl (480, .inl (fun _ => 0)) (fun _ => rfl) (by decide) (by decide) (Nat.le_of_ble_eq_true rfl) ⟨Nat.le_of_ble_eq_true rfl, Nat.le_of_ble_eq_true rfl⟩ dX0_init_40 (fun qq4 => ?_)
  change J X 4 1920 [(q0, .inr (4, [.int 0, .ref qq1, .ref qq2, .ref qq3, .null])), (qq1, .inl (t 0, 480, .inl (fun _ => 0))), (qq2, .inl (t 0, 480, .inl (fun _ => 0))), (qq3, .inl (t 0, 480, .inl (fun _ => 0))), (qq4, .inl (t 0, 480, .inl (fun _ => 0)))] 42 [(0, .ref q0)] [.ref qq4, .ref q0]
  refine j_putF hX hi [(q0, .inr (4, [.int 0, .ref qq1, .ref qq2, .ref qq3, .ref qq4])), (qq1, .inl (t 0, 480, .inl (fun _ => 0))), (qq2, .inl (t 0, 480, .inl (fun _ => 0))), (qq3, .inl (t 0, 480, .inl (fun _ => 0))), (qq4, .inl (t 0, 480, .inl (fun _ => 0)))] tyX0 dX0_init_42 inX0 tyX0_ok nmX0 4 q89 0 rfl rfl (by decide) rfl rfl rfl rfl rfl rfl (Nat.le_of_ble_eq_true rfl) rfl ?_
  exact j_vret hX hE dX0_init_45 (Nat.le_of_ble_eq_true rfl) (Nat.le_of_ble_eq_true rfl) ⟨rfl, (fun k => [q0, qq1, qq2, qq3, qq4].getD k 0), rfl, rfl⟩
set_option maxHeartbeats 4000000 in
set_option maxRecDepth 100000 in
theorem k_X5_init {l : Launch} {D : va_G} {t : Nat → ClassId} {q0 : Nat} : cm l D (jT t) yX5_init cX5_init 1 none { frames := 1, cells := 6, slots := 48, locals := 20 } [.ref q0] [(q0, .inr (9, [.int 0, .int 0, .null, .null, .null, .null, .null, .null]))] (fun v w => v = none ∧ ∃ z : Nat → Nat, z 0 = q0 ∧ w = wR t z 0 0 0 (fun _ => 0) (fun _ => 0) (fun _ => 0) (fun _ => 0) (fun _ => 0) (fun _ => 0)) := by
  refine cmI_of RX5 rfl rfl (by decide +kernel) (Nat.le_of_ble_eq_true rfl) (fun X hX hE hi => ?_)
  change J X 0 0 [(q0, .inr (9, [.int 0, .int 0, .null, .null, .null, .null, .null, .null]))] 0 [(0, .ref q0)] []
  refine j_aload_n hX dX5_init_0 rfl 0 rfl ?_
  refine j_objInit hX q70 dX5_init_1 (Nat.le_of_ble_eq_true rfl) ⟨by decide, by decide⟩ ?_
  refine j_aload_n hX dX5_init_4 rfl 0 rfl ?_
  refine j_iconst hX 0 dX5_init_5 (by decide) ?_
  refine j_put hX [(q0, .inr (9, [.int 0, .int 0, .null, .null, .null, .null, .null, .null]))] tyX5 dX5_init_6 inX5 tyX5_ok nmX5 0 q71 0 rfl rfl (by decide) rfl rfl rfl rfl rfl (Nat.le_of_ble_eq_true rfl) rfl ?_
  refine j_aload_n hX dX5_init_9 rfl 0 rfl ?_
  refine j_iconst hX 0 dX5_init_10 (by decide) ?_
  refine j_put hX [(q0, .inr (9, [.int 0, .int 0, .null, .null, .null, .null, .null, .null]))] tyX5 dX5_init_11 inX5 tyX5_ok nmX5 1 q72 0 rfl rfl (by decide) rfl rfl rfl rfl rfl (Nat.le_of_ble_eq_true rfl) rfl ?_
  refine j_aload_n hX dX5_init_14 rfl 0 rfl ?_
  refine j_bipush hX 8 dX5_init_15 (by decide) ?_
  refine j_newa (atype := .int) hX 0 rfl qAint rfl (8, .inl (fun _ => 0)) (fun _ => rfl) (by decide) (by decide) (Nat.le_of_ble_eq_true rfl) ⟨Nat.le_of_ble_eq_true rfl, Nat.le_of_ble_eq_true rfl⟩ dX5_init_17 (fun qq1 => ?_)
  change J X 1 8 [(q0, .inr (9, [.int 0, .int 0, .null, .null, .null, .null, .null, .null])), (qq1, .inl (t 0, 8, .inl (fun _ => 0)))] 19 [(0, .ref q0)] [.ref qq1, .ref q0]
  refine j_putF hX hi [(q0, .inr (9, [.int 0, .int 0, .ref qq1, .null, .null, .null, .null, .null])), (qq1, .inl (t 0, 8, .inl (fun _ => 0)))] tyX5 dX5_init_19 inX5 tyX5_ok nmX5 2 q73 0 rfl rfl (by decide) rfl rfl rfl rfl rfl rfl (Nat.le_of_ble_eq_true rfl) rfl ?_
  refine j_aload_n hX dX5_init_22 rfl 0 rfl ?_
  refine j_bipush hX 8 dX5_init_23 (by decide) ?_
  refine j_newa (atype := .int) hX 0 rfl qAint rfl (8, .inl (fun _ => 0)) (fun _ => rfl) (by decide) (by decide) (Nat.le_of_ble_eq_true rfl) ⟨Nat.le_of_ble_eq_true rfl, Nat.le_of_ble_eq_true rfl⟩ dX5_init_25 (fun qq2 => ?_)
  change J X 2 16 [(q0, .inr (9, [.int 0, .int 0, .ref qq1, .null, .null, .null, .null, .null])), (qq1, .inl (t 0, 8, .inl (fun _ => 0))), (qq2, .inl (t 0, 8, .inl (fun _ => 0)))] 27 [(0, .ref q0)] [.ref qq2, .ref q0]
  refine j_putF hX hi [(q0, .inr (9, [.int 0, .int 0, .ref qq1, .ref qq2, .null, .null, .null, .null])), (qq1, .inl (t 0, 8, .inl (fun _ => 0))), (qq2, .inl (t 0, 8, .inl (fun _ => 0)))] tyX5 dX5_init_27 inX5 tyX5_ok nmX5 3 q74 0 rfl rfl (by decide) rfl rfl rfl rfl rfl rfl (Nat.le_of_ble_eq_true rfl) rfl ?_
  refine j_aload_n hX dX5_init_30 rfl 0 rfl ?_
  refine j_bipush hX 8 dX5_init_31 (by decide) ?_
  refine j_newa (atype := .int) hX 0 rfl qAint rfl (8, .inl (fun _ => 0)) (fun _ => rfl) (by decide) (by decide) (Nat.le_of_ble_eq_true rfl) ⟨Nat.le_of_ble_eq_true rfl, Nat.le_of_ble_eq_true rfl⟩ dX5_init_33 (fun qq3 => ?_)
  change J X 3 24 [(q0, .inr (9, [.int 0, .int 0, .ref qq1, .ref qq2, .null, .null, .null, .null])), (qq1, .inl (t 0, 8, .inl (fun _ => 0))), (qq2, .inl (t 0, 8, .inl (fun _ => 0))), (qq3, .inl (t 0, 8, .inl (fun _ => 0)))] 35 [(0, .ref q0)] [.ref qq3, .ref q0]
  refine j_putF hX hi [(q0, .inr (9, [.int 0, .int 0, .ref qq1, .ref qq2, .ref qq3, .null, .null, .null])), (qq1, .inl (t 0, 8, .inl (fun _ => 0))), (qq2, .inl (t 0, 8, .inl (fun _ => 0))), (qq3, .inl (t 0, 8, .inl (fun _ => 0)))] tyX5 dX5_init_35 inX5 tyX5_ok nmX5 4 q75 0 rfl rfl (by decide) rfl rfl rfl rfl rfl rfl (Nat.le_of_ble_eq_true rfl) rfl ?_
  refine j_aload_n hX dX5_init_38 rfl 0 rfl ?_
  refine j_bipush hX 8 dX5_init_39 (by decide) ?_
  refine j_newa (atype := .int) hX 0 rfl qAint rfl (8, .inl (fun _ => 0)) (fun _ => rfl) (by decide) (by decide) (Nat.le_of_ble_eq_true rfl) ⟨Nat.le_of_ble_eq_true rfl, Nat.le_of_ble_eq_true rfl⟩ dX5_init_41 (fun qq4 => ?_)
  change J X 4 32 [(q0, .inr (9, [.int 0, .int 0, .ref qq1, .ref qq2, .ref qq3, .null, .null, .null])), (qq1, .inl (t 0, 8, .inl (fun _ => 0))), (qq2, .inl (t 0, 8, .inl (fun _ => 0))), (qq3, .inl (t 0, 8, .inl (fun _ => 0))), (qq4, .inl (t 0, 8, .inl (fun _ => 0)))] 43 [(0, .ref q0)] [.ref qq4, .ref q0]
  refine j_putF hX hi [(q0, .inr (9, [.int 0, .int 0, .ref qq1, .ref qq2, .ref qq3, .ref qq4, .null, .null])), (qq1, .inl (t 0, 8, .inl (fun _ => 0))), (qq2, .inl (t 0, 8, .inl (fun _ => 0))), (qq3, .inl (t 0, 8, .inl (fun _ => 0))), (qq4, .inl (t 0, 8, .inl (fun _ => 0)))] tyX5 dX5_init_43 inX5 tyX5_ok nmX5 5 q76 0 rfl rfl (by decide) rfl rfl rfl rfl rfl rfl (Nat.le_of_ble_eq_true rfl) rfl ?_
  refine j_aload_n hX dX5_init_46 rfl 0 rfl ?_
  refine j_bipush hX 8 dX5_init_47 (by decide) ?_
  refine j_newa (atype := .int) hX 0 rfl qAint rfl (8, .inl (fun _ => 0)) (fun _ => rfl) (by decide) (by decide) (Nat.le_of_ble_eq_true rfl) ⟨Nat.le_of_ble_eq_true rfl, Nat.le_of_ble_eq_true rfl⟩ dX5_init_49 (fun qq5 => ?_)
  change J X 5 40 [(q0, .inr (9, [.int 0, .int 0, .ref qq1, .ref qq2, .ref qq3, .ref qq4, .null, .null])), (qq1, .inl (t 0, 8, .inl (fun _ => 0))), (qq2, .inl (t 0, 8, .inl (fun _ => 0))), (qq3, .inl (t 0, 8, .inl (fun _ => 0))), (qq4, .inl (t 0, 8, .inl (fun _ => 0))), (qq5, .inl (t 0, 8, .inl (fun _ => 0)))] 51 [(0, .ref q0)] [.ref qq5, .ref q0]
  refine j_putF hX hi [(q0, .inr (9, [.int 0, .int 0, .ref qq1, .ref qq2, .ref qq3, .ref qq4, .ref qq5, .null])), (qq1, .inl (t 0, 8, .inl (fun _ => 0))), (qq2, .inl (t 0, 8, .inl (fun _ => 0))), (qq3, .inl (t 0, 8, .inl (fun _ => 0))), (qq4, .inl (t 0, 8, .inl (fun _ => 0))), (qq5, .inl (t 0, 8, .inl (fun _ => 0)))] tyX5 dX5_init_51 inX5 tyX5_ok nmX5 6 q77 0 rfl rfl (by decide) rfl rfl rfl rfl rfl rfl (Nat.le_of_ble_eq_true rfl) rfl ?_
  refine j_aload_n hX dX5_init_54 rfl 0 rfl ?_
  refine j_bipush hX 8 dX5_init_55 (by decide) ?_
  refine j_newa (atype := .int) hX 0 rfl qAint rfl (8, .inl (fun _ => 0)) (fun _ => rfl) (by decide) (by decide) (Nat.le_of_ble_eq_true rfl) ⟨Nat.le_of_ble_eq_true rfl, Nat.le_of_ble_eq_true rfl⟩ dX5_init_57 (fun qq6 => ?_)
  change J X 6 48 [(q0, .inr (9, [.int 0, .int 0, .ref qq1, .ref qq2, .ref qq3, .ref qq4, .ref qq5, .null])), (qq1, .inl (t 0, 8, .inl (fun _ => 0))), (qq2, .inl (t 0, 8, .inl (fun _ => 0))), (qq3, .inl (t 0, 8, .inl (fun _ => 0))), (qq4, .inl (t 0, 8, .inl (fun _ => 0))), (qq5, .inl (t 0, 8, .inl (fun _ => 0))), (qq6, .inl (t 0, 8, .inl (fun _ => 0)))] 59 [(0, .ref q0)] [.ref qq6, .ref q0]
  refine j_putF hX hi [(q0, .inr (9, [.int 0, .int 0, .ref qq1, .ref qq2, .ref qq3, .ref qq4, .ref qq5, .ref qq6])), (qq1, .inl (t 0, 8, .inl (fun _ => 0))), (qq2, .inl (t 0, 8, .inl (fun _ => 0))), (qq3, .inl (t 0, 8, .inl (fun _ => 0))), (qq4, .inl (t 0, 8, .inl (fun _ => 0))), (qq5, .inl (t 0, 8, .inl (fun _ => 0))), (qq6, .inl (t 0, 8, .inl (fun _ => 0)))] tyX5 dX5_init_59 inX5 tyX5_ok nmX5 7 q78 0 rfl rfl (by decide) rfl rfl rfl rfl rfl rfl (Nat.le_of_ble_eq_true rfl) rfl ?_
  exact j_vret hX hE dX5_init_62 (Nat.le_of_ble_eq_true rfl) (Nat.le_of_ble_eq_true rfl) ⟨rfl, (fun k => [q0, qq1, qq2, qq3, qq4, qq5, qq6].getD k 0), rfl, rfl⟩
set_option maxHeartbeats 4000000 in
set_option maxRecDepth 100000 in
theorem k_X4_init {l : Launch} {D : va_G} {t : Nat → ClassId} {q0 : Nat} : cm l D (jT t) yX4_init cX4_init 1 none { frames := 1, cells := 3, slots := 28, locals := 20 } [.ref q0] [(q0, .inr (8, [.int 0, .null, .null, .null, .int 0]))] (fun v w => v = none ∧ ∃ z : Nat → Nat, z 0 = q0 ∧ w = wG t z 0 0 (fun _ => 0) (fun _ => 0) (fun _ => 0) 0) := by
  refine cmI_of RX4 rfl rfl (by decide +kernel) (Nat.le_of_ble_eq_true rfl) (fun X hX hE hi => ?_)
  change J X 0 0 [(q0, .inr (8, [.int 0, .null, .null, .null, .int 0]))] 0 [(0, .ref q0)] []
  refine j_aload_n hX dX4_init_0 rfl 0 rfl ?_
  refine j_objInit hX q128 dX4_init_1 (Nat.le_of_ble_eq_true rfl) ⟨by decide, by decide⟩ ?_
  refine j_aload_n hX dX4_init_4 rfl 0 rfl ?_
  refine j_iconst hX 0 dX4_init_5 (by decide) ?_
  refine j_put hX [(q0, .inr (8, [.int 0, .null, .null, .null, .int 0]))] tyX4 dX4_init_6 inX4 tyX4_ok nmX4 0 q129 0 rfl rfl (by decide) rfl rfl rfl rfl rfl (Nat.le_of_ble_eq_true rfl) rfl ?_
  refine j_aload_n hX dX4_init_9 rfl 0 rfl ?_
  refine j_bipush hX 8 dX4_init_10 (by decide) ?_
  refine j_newa (atype := .int) hX 0 rfl qAint rfl (8, .inl (fun _ => 0)) (fun _ => rfl) (by decide) (by decide) (Nat.le_of_ble_eq_true rfl) ⟨Nat.le_of_ble_eq_true rfl, Nat.le_of_ble_eq_true rfl⟩ dX4_init_12 (fun qq1 => ?_)
  change J X 1 8 [(q0, .inr (8, [.int 0, .null, .null, .null, .int 0])), (qq1, .inl (t 0, 8, .inl (fun _ => 0)))] 14 [(0, .ref q0)] [.ref qq1, .ref q0]
  refine j_putF hX hi [(q0, .inr (8, [.int 0, .ref qq1, .null, .null, .int 0])), (qq1, .inl (t 0, 8, .inl (fun _ => 0)))] tyX4 dX4_init_14 inX4 tyX4_ok nmX4 1 q130 0 rfl rfl (by decide) rfl rfl rfl rfl rfl rfl (Nat.le_of_ble_eq_true rfl) rfl ?_
  refine j_aload_n hX dX4_init_17 rfl 0 rfl ?_
  refine j_bipush hX 12 dX4_init_18 (by decide) ?_
  refine j_newa (atype := .int) hX 0 rfl qAint rfl (12, .inl (fun _ => 0)) (fun _ => rfl) (by decide) (by decide) (Nat.le_of_ble_eq_true rfl) ⟨Nat.le_of_ble_eq_true rfl, Nat.le_of_ble_eq_true rfl⟩ dX4_init_20 (fun qq2 => ?_)
  change J X 2 20 [(q0, .inr (8, [.int 0, .ref qq1, .null, .null, .int 0])), (qq1, .inl (t 0, 8, .inl (fun _ => 0))), (qq2, .inl (t 0, 12, .inl (fun _ => 0)))] 22 [(0, .ref q0)] [.ref qq2, .ref q0]
  refine j_putF hX hi [(q0, .inr (8, [.int 0, .ref qq1, .ref qq2, .null, .int 0])), (qq1, .inl (t 0, 8, .inl (fun _ => 0))), (qq2, .inl (t 0, 12, .inl (fun _ => 0)))] tyX4 dX4_init_22 inX4 tyX4_ok nmX4 2 q131 0 rfl rfl (by decide) rfl rfl rfl rfl rfl rfl (Nat.le_of_ble_eq_true rfl) rfl ?_
  refine j_aload_n hX dX4_init_25 rfl 0 rfl ?_
  refine j_bipush hX 8 dX4_init_26 (by decide) ?_
  refine j_newa (atype := .int) hX 0 rfl qAint rfl (8, .inl (fun _ => 0)) (fun _ => rfl) (by decide) (by decide) (Nat.le_of_ble_eq_true rfl) ⟨Nat.le_of_ble_eq_true rfl, Nat.le_of_ble_eq_true rfl⟩ dX4_init_28 (fun qq3 => ?_)
  change J X 3 28 [(q0, .inr (8, [.int 0, .ref qq1, .ref qq2, .null, .int 0])), (qq1, .inl (t 0, 8, .inl (fun _ => 0))), (qq2, .inl (t 0, 12, .inl (fun _ => 0))), (qq3, .inl (t 0, 8, .inl (fun _ => 0)))] 30 [(0, .ref q0)] [.ref qq3, .ref q0]
  refine j_putF hX hi [(q0, .inr (8, [.int 0, .ref qq1, .ref qq2, .ref qq3, .int 0])), (qq1, .inl (t 0, 8, .inl (fun _ => 0))), (qq2, .inl (t 0, 12, .inl (fun _ => 0))), (qq3, .inl (t 0, 8, .inl (fun _ => 0)))] tyX4 dX4_init_30 inX4 tyX4_ok nmX4 3 q132 0 rfl rfl (by decide) rfl rfl rfl rfl rfl rfl (Nat.le_of_ble_eq_true rfl) rfl ?_
  refine j_aload_n hX dX4_init_33 rfl 0 rfl ?_
  refine j_iconst hX 0 dX4_init_34 (by decide) ?_
  refine j_put hX [(q0, .inr (8, [.int 0, .ref qq1, .ref qq2, .ref qq3, .int 0])), (qq1, .inl (t 0, 8, .inl (fun _ => 0))), (qq2, .inl (t 0, 12, .inl (fun _ => 0))), (qq3, .inl (t 0, 8, .inl (fun _ => 0)))] tyX4 dX4_init_35 inX4 tyX4_ok nmX4 4 q133 0 rfl rfl (by decide) rfl rfl rfl rfl rfl (Nat.le_of_ble_eq_true rfl) rfl ?_
  exact j_vret hX hE dX4_init_38 (Nat.le_of_ble_eq_true rfl) (Nat.le_of_ble_eq_true rfl) ⟨rfl, (fun k => [q0, qq1, qq2, qq3].getD k 0), rfl, rfl⟩
set_option maxHeartbeats 4000000 in
set_option maxRecDepth 100000 in
theorem k_X1_init {l : Launch} {D : va_G} {t : Nat → ClassId} {q0 : Nat} : cm l D (jT t) yX1_init cX1_init 1 none { frames := 1, cells := 2, slots := 156, locals := 20 } [.ref q0] [(q0, .inr (5, [.int 0, .int 0, .null, .null]))] (fun v w => v = none ∧ ∃ z : Nat → Nat, z 0 = q0 ∧ w = wC t z 0 0 0 (fun _ => 0) (fun _ => 0)) := by
  refine cmI_of RX1 rfl rfl (by decide +kernel) (Nat.le_of_ble_eq_true rfl) (fun X hX hE hi => ?_)
  change J X 0 0 [(q0, .inr (5, [.int 0, .int 0, .null, .null]))] 0 [(0, .ref q0)] []
  refine j_aload_n hX dX1_init_0 rfl 0 rfl ?_
  refine j_objInit hX q139 dX1_init_1 (Nat.le_of_ble_eq_true rfl) ⟨by decide, by decide⟩ ?_
  refine j_aload_n hX dX1_init_4 rfl 0 rfl ?_
  refine j_iconst hX 0 dX1_init_5 (by decide) ?_
  refine j_put hX [(q0, .inr (5, [.int 0, .int 0, .null, .null]))] tyX1 dX1_init_6 inX1 tyX1_ok nmX1 0 q140 0 rfl rfl (by decide) rfl rfl rfl rfl rfl (Nat.le_of_ble_eq_true rfl) rfl ?_
  refine j_aload_n hX dX1_init_9 rfl 0 rfl ?_
  refine j_iconst hX 0 dX1_init_10 (by decide) ?_
  refine j_put hX [(q0, .inr (5, [.int 0, .int 0, .null, .null]))] tyX1 dX1_init_11 inX1 tyX1_ok nmX1 1 q141 0 rfl rfl (by decide) rfl rfl rfl rfl rfl (Nat.le_of_ble_eq_true rfl) rfl ?_
  refine j_aload_n hX dX1_init_14 rfl 0 rfl ?_
  refine j_bipush hX 12 dX1_init_15 (by decide) ?_
  refine j_newa (atype := .int) hX 0 rfl qAint rfl (12, .inl (fun _ => 0)) (fun _ => rfl) (by decide) (by decide) (Nat.le_of_ble_eq_true rfl) ⟨Nat.le_of_ble_eq_true rfl, Nat.le_of_ble_eq_true rfl⟩ dX1_init_17 (fun qq1 => ?_)
  change J X 1 12 [(q0, .inr (5, [.int 0, .int 0, .null, .null])), (qq1, .inl (t 0, 12, .inl (fun _ => 0)))] 19 [(0, .ref q0)] [.ref qq1, .ref q0]
  refine j_putF hX hi [(q0, .inr (5, [.int 0, .int 0, .ref qq1, .null])), (qq1, .inl (t 0, 12, .inl (fun _ => 0)))] tyX1 dX1_init_19 inX1 tyX1_ok nmX1 2 q142 0 rfl rfl (by decide) rfl rfl rfl rfl rfl rfl (Nat.le_of_ble_eq_true rfl) rfl ?_
  refine j_aload_n hX dX1_init_22 rfl 0 rfl ?_
  refine j_sipush hX 144 dX1_init_23 (by decide) ?_
  refine j_newa (atype := .int) hX 0 rfl qAint rfl (144, .inl (fun _ => 0)) (fun _ => rfl) (by decide) (by decide) (Nat.le_of_ble_eq_true rfl) ⟨Nat.le_of_ble_eq_true rfl, Nat.le_of_ble_eq_true rfl⟩ dX1_init_26 (fun qq2 => ?_)
  change J X 2 156 [(q0, .inr (5, [.int 0, .int 0, .ref qq1, .null])), (qq1, .inl (t 0, 12, .inl (fun _ => 0))), (qq2, .inl (t 0, 144, .inl (fun _ => 0)))] 28 [(0, .ref q0)] [.ref qq2, .ref q0]
  refine j_putF hX hi [(q0, .inr (5, [.int 0, .int 0, .ref qq1, .ref qq2])), (qq1, .inl (t 0, 12, .inl (fun _ => 0))), (qq2, .inl (t 0, 144, .inl (fun _ => 0)))] tyX1 dX1_init_28 inX1 tyX1_ok nmX1 3 q143 0 rfl rfl (by decide) rfl rfl rfl rfl rfl rfl (Nat.le_of_ble_eq_true rfl) rfl ?_
  exact j_vret hX hE dX1_init_31 (Nat.le_of_ble_eq_true rfl) (Nat.le_of_ble_eq_true rfl) ⟨rfl, (fun k => [q0, qq1, qq2].getD k 0), rfl, rfl⟩
set_option maxHeartbeats 4000000 in
set_option maxRecDepth 100000 in
theorem k_X6_init {l : Launch} {D : va_G} {t : Nat → ClassId} {q0 : Nat} : cm l D (jT t) yX6_init cX6_init 1 none { frames := 1, cells := 3, slots := 150, locals := 20 } [.ref q0] [(q0, .inr (10, [.null, .int 0, .int 0, .int 0, .null, .null, .int 0]))] (fun v w => v = none ∧ ∃ z : Nat → Nat, z 0 = q0 ∧ w = wP t z 0 (fun _ => 0) 0 0 0 (fun _ => 0) (fun _ => 0) 0) := by
  refine cmI_of RX6 rfl rfl (by decide +kernel) (Nat.le_of_ble_eq_true rfl) (fun X hX hE hi => ?_)
  change J X 0 0 [(q0, .inr (10, [.null, .int 0, .int 0, .int 0, .null, .null, .int 0]))] 0 [(0, .ref q0)] []
  refine j_aload_n hX dX6_init_0 rfl 0 rfl ?_
  refine j_objInit hX q149 dX6_init_1 (Nat.le_of_ble_eq_true rfl) ⟨by decide, by decide⟩ ?_
  refine j_aload_n hX dX6_init_4 rfl 0 rfl ?_
  refine j_bipush hX 60 dX6_init_5 (by decide) ?_
  refine j_newa (atype := .char) hX 1 rfl qAchar rfl (60, .inl (fun _ => 0)) (fun _ => rfl) (by decide) (by decide) (Nat.le_of_ble_eq_true rfl) ⟨Nat.le_of_ble_eq_true rfl, Nat.le_of_ble_eq_true rfl⟩ dX6_init_7 (fun qq1 => ?_)
  change J X 1 60 [(q0, .inr (10, [.null, .int 0, .int 0, .int 0, .null, .null, .int 0])), (qq1, .inl (t 1, 60, .inl (fun _ => 0)))] 9 [(0, .ref q0)] [.ref qq1, .ref q0]
  refine j_putF hX hi [(q0, .inr (10, [.ref qq1, .int 0, .int 0, .int 0, .null, .null, .int 0])), (qq1, .inl (t 1, 60, .inl (fun _ => 0)))] tyX6 dX6_init_9 inX6 tyX6_ok nmX6 0 q150 0 rfl rfl (by decide) rfl rfl rfl rfl rfl rfl (Nat.le_of_ble_eq_true rfl) rfl ?_
  refine j_aload_n hX dX6_init_12 rfl 0 rfl ?_
  refine j_iconst hX 0 dX6_init_13 (by decide) ?_
  refine j_put hX [(q0, .inr (10, [.ref qq1, .int 0, .int 0, .int 0, .null, .null, .int 0])), (qq1, .inl (t 1, 60, .inl (fun _ => 0)))] tyX6 dX6_init_14 inX6 tyX6_ok nmX6 1 q151 0 rfl rfl (by decide) rfl rfl rfl rfl rfl (Nat.le_of_ble_eq_true rfl) rfl ?_
  refine j_aload_n hX dX6_init_17 rfl 0 rfl ?_
  refine j_iconst hX 0 dX6_init_18 (by decide) ?_
  refine j_put hX [(q0, .inr (10, [.ref qq1, .int 0, .int 0, .int 0, .null, .null, .int 0])), (qq1, .inl (t 1, 60, .inl (fun _ => 0)))] tyX6 dX6_init_19 inX6 tyX6_ok nmX6 2 q152 0 rfl rfl (by decide) rfl rfl rfl rfl rfl (Nat.le_of_ble_eq_true rfl) rfl ?_
  refine j_aload_n hX dX6_init_22 rfl 0 rfl ?_
  refine j_iconst hX 0 dX6_init_23 (by decide) ?_
  refine j_put hX [(q0, .inr (10, [.ref qq1, .int 0, .int 0, .int 0, .null, .null, .int 0])), (qq1, .inl (t 1, 60, .inl (fun _ => 0)))] tyX6 dX6_init_24 inX6 tyX6_ok nmX6 3 q153 0 rfl rfl (by decide) rfl rfl rfl rfl rfl (Nat.le_of_ble_eq_true rfl) rfl ?_
  refine j_aload_n hX dX6_init_27 rfl 0 rfl ?_
  refine j_bipush hX 15 dX6_init_28 (by decide) ?_
  refine j_newa (atype := .int) hX 0 rfl qAint rfl (15, .inl (fun _ => 0)) (fun _ => rfl) (by decide) (by decide) (Nat.le_of_ble_eq_true rfl) ⟨Nat.le_of_ble_eq_true rfl, Nat.le_of_ble_eq_true rfl⟩ dX6_init_30 (fun qq2 => ?_)
  change J X 2 75 [(q0, .inr (10, [.ref qq1, .int 0, .int 0, .int 0, .null, .null, .int 0])), (qq1, .inl (t 1, 60, .inl (fun _ => 0))), (qq2, .inl (t 0, 15, .inl (fun _ => 0)))] 32 [(0, .ref q0)] [.ref qq2, .ref q0]
  refine j_putF hX hi [(q0, .inr (10, [.ref qq1, .int 0, .int 0, .int 0, .ref qq2, .null, .int 0])), (qq1, .inl (t 1, 60, .inl (fun _ => 0))), (qq2, .inl (t 0, 15, .inl (fun _ => 0)))] tyX6 dX6_init_32 inX6 tyX6_ok nmX6 4 q154 0 rfl rfl (by decide) rfl rfl rfl rfl rfl rfl (Nat.le_of_ble_eq_true rfl) rfl ?_
  refine j_aload_n hX dX6_init_35 rfl 0 rfl ?_
  refine j_bipush hX 75 dX6_init_36 (by decide) ?_
  refine j_newa (atype := .int) hX 0 rfl qAint rfl (75, .inl (fun _ => 0)) (fun _ => rfl) (by decide) (by decide) (Nat.le_of_ble_eq_true rfl) ⟨Nat.le_of_ble_eq_true rfl, Nat.le_of_ble_eq_true rfl⟩ dX6_init_38 (fun qq3 => ?_)
  change J X 3 150 [(q0, .inr (10, [.ref qq1, .int 0, .int 0, .int 0, .ref qq2, .null, .int 0])), (qq1, .inl (t 1, 60, .inl (fun _ => 0))), (qq2, .inl (t 0, 15, .inl (fun _ => 0))), (qq3, .inl (t 0, 75, .inl (fun _ => 0)))] 40 [(0, .ref q0)] [.ref qq3, .ref q0]
  refine j_putF hX hi [(q0, .inr (10, [.ref qq1, .int 0, .int 0, .int 0, .ref qq2, .ref qq3, .int 0])), (qq1, .inl (t 1, 60, .inl (fun _ => 0))), (qq2, .inl (t 0, 15, .inl (fun _ => 0))), (qq3, .inl (t 0, 75, .inl (fun _ => 0)))] tyX6 dX6_init_40 inX6 tyX6_ok nmX6 5 q155 0 rfl rfl (by decide) rfl rfl rfl rfl rfl rfl (Nat.le_of_ble_eq_true rfl) rfl ?_
  refine j_aload_n hX dX6_init_43 rfl 0 rfl ?_
  refine j_iconst hX 0 dX6_init_44 (by decide) ?_
  refine j_put hX [(q0, .inr (10, [.ref qq1, .int 0, .int 0, .int 0, .ref qq2, .ref qq3, .int 0])), (qq1, .inl (t 1, 60, .inl (fun _ => 0))), (qq2, .inl (t 0, 15, .inl (fun _ => 0))), (qq3, .inl (t 0, 75, .inl (fun _ => 0)))] tyX6 dX6_init_45 inX6 tyX6_ok nmX6 6 q156 0 rfl rfl (by decide) rfl rfl rfl rfl rfl (Nat.le_of_ble_eq_true rfl) rfl ?_
  exact j_vret hX hE dX6_init_48 (Nat.le_of_ble_eq_true rfl) (Nat.le_of_ble_eq_true rfl) ⟨rfl, (fun k => [q0, qq1, qq2, qq3].getD k 0), rfl, rfl⟩
theorem j_arr {X : jX} {l0 : Launch} {D0 : va_G} {T0 : List (ClassId × FieldType)} {cc : ByteArray} {own : String} {rt : Option FieldType} {rm : Room} {nL : Nat} {a b : Nat} {ws : va_W} {pc : Nat} {ls : List (Nat × Value)} {st : List Value} (h : jOK X l0 D0 T0 cc own rt rm nL) (q0 : Nat) {ad : Nat} {cA : ClassId} {x : vp_A} (y : vp_A) (ha : ws[q0]? = some (ad, .inl (cA, x))) (hc : vp_cell cA x = vp_cell cA y) (ws' : va_W) (hw : ws.set q0 (ad, .inl (cA, y)) = ws')
    (kk : J X a b ws' pc ls st) : J X a b ws pc ls st := by
  obtain ⟨p, l, e, R, s, m, args, below, meth, c, D, T, A, nL1, Q⟩ := X
  subst hw
  intro H locs sl hP hD hS hv
  refine kk H locs sl (fun k q hk => ?_) (hD.set ha) hS hv
  by_cases hq : k = q0
  · subst hq
    rw [List.getElem?_set_self (List.getElem?_eq_some_iff.mp ha).1] at hk
    cases hk
    have := hP k _ ha
    show H[ad]? = some (vp_cell cA y)
    rw [← hc]
    exact this
  · rw [List.getElem?_set_ne (fun z => hq z.symm)] at hk
    exact hP k q hk
theorem jcell_i {cA : ClassId} {n : Nat} {f g : Nat → Int32} (h : ∀ i, i < n → f i = g i) : vp_cell cA (n, .inl f) = vp_cell cA (n, .inl g) := by
  show arrV cA n (fun k => .int (f k)) = arrV cA n (fun k => .int (g k))
  unfold arrV
  congr 1
  exact congrArg Array.ofFn (funext fun j => congrArg Value.int (h j.val j.isLt))
theorem jcell_q {cA : ClassId} {n : Nat} {f g : Nat → Option Nat} (h : ∀ i, i < n → f i = g i) : vp_cell cA (n, .inr (.inr (.inr (.inr f)))) = vp_cell cA (n, .inr (.inr (.inr (.inr g)))) := by
  show arrV cA n (fun k => va_rf (f k)) = arrV cA n (fun k => va_rf (g k))
  unfold arrV
  congr 1
  exact congrArg Array.ofFn (funext fun j => congrArg va_rf (h j.val j.isLt))
set_option maxHeartbeats 4000000 in
set_option maxRecDepth 100000 in
theorem k_X2_init {l : Launch} {D : va_G} {t : Nat → ClassId} {q0 : Nat} : cm l D (jT t) yX2_init cX2_init 1 none { frames := 1, cells := 6, slots := 78, locals := 23 } [.ref q0] [(q0, .inr (6, [.int 0, .null, .null, .null, .null, .null, .null]))] (fun v w => v = none ∧ ∃ z : Nat → Nat, z 0 = q0 ∧ w = wH t z 0 0 (fun _ => 0) (fun _ => 0) (fun _ => 0) (fun _ => 0) (fun _ => 0) (fun _ => -1)) := by
  refine cmI_of RX2 rfl rfl (by decide +kernel) (Nat.le_of_ble_eq_true rfl) (fun X hX hE hi => ?_)
  change J X 0 0 [(q0, .inr (6, [.int 0, .null, .null, .null, .null, .null, .null]))] 0 [(0, .ref q0)] []
  refine j_aload_n hX dX2_init_0 rfl 0 rfl ?_
  refine j_objInit hX q54 dX2_init_1 (Nat.le_of_ble_eq_true rfl) ⟨by decide, by decide⟩ ?_
  refine j_aload_n hX dX2_init_4 rfl 0 rfl ?_
  refine j_iconst hX 0 dX2_init_5 (by decide) ?_
  refine j_put hX [(q0, .inr (6, [.int 0, .null, .null, .null, .null, .null, .null]))] tyX2 dX2_init_6 inX2 tyX2_ok nmX2 0 q58 0 rfl rfl (by decide) rfl rfl rfl rfl rfl (Nat.le_of_ble_eq_true rfl) rfl ?_
  refine j_aload_n hX dX2_init_9 rfl 0 rfl ?_
  refine j_bipush hX 12 dX2_init_10 (by decide) ?_
  refine j_newa (atype := .int) hX 0 rfl qAint rfl (12, .inl (fun _ => 0)) (fun _ => rfl) (by decide) (by decide) (Nat.le_of_ble_eq_true rfl) ⟨Nat.le_of_ble_eq_true rfl, Nat.le_of_ble_eq_true rfl⟩ dX2_init_12 (fun qq1 => ?_)
  change J X 1 12 [(q0, .inr (6, [.int 0, .null, .null, .null, .null, .null, .null])), (qq1, .inl (t 0, 12, .inl (fun _ => 0)))] 14 [(0, .ref q0)] [.ref qq1, .ref q0]
  refine j_putF hX hi [(q0, .inr (6, [.int 0, .ref qq1, .null, .null, .null, .null, .null])), (qq1, .inl (t 0, 12, .inl (fun _ => 0)))] tyX2 dX2_init_14 inX2 tyX2_ok nmX2 1 q59 0 rfl rfl (by decide) rfl rfl rfl rfl rfl rfl (Nat.le_of_ble_eq_true rfl) rfl ?_
  refine j_aload_n hX dX2_init_17 rfl 0 rfl ?_
  refine j_bipush hX 12 dX2_init_18 (by decide) ?_
  refine j_newa (atype := .int) hX 0 rfl qAint rfl (12, .inl (fun _ => 0)) (fun _ => rfl) (by decide) (by decide) (Nat.le_of_ble_eq_true rfl) ⟨Nat.le_of_ble_eq_true rfl, Nat.le_of_ble_eq_true rfl⟩ dX2_init_20 (fun qq2 => ?_)
  change J X 2 24 [(q0, .inr (6, [.int 0, .ref qq1, .null, .null, .null, .null, .null])), (qq1, .inl (t 0, 12, .inl (fun _ => 0))), (qq2, .inl (t 0, 12, .inl (fun _ => 0)))] 22 [(0, .ref q0)] [.ref qq2, .ref q0]
  refine j_putF hX hi [(q0, .inr (6, [.int 0, .ref qq1, .ref qq2, .null, .null, .null, .null])), (qq1, .inl (t 0, 12, .inl (fun _ => 0))), (qq2, .inl (t 0, 12, .inl (fun _ => 0)))] tyX2 dX2_init_22 inX2 tyX2_ok nmX2 2 q60 0 rfl rfl (by decide) rfl rfl rfl rfl rfl rfl (Nat.le_of_ble_eq_true rfl) rfl ?_
  refine j_aload_n hX dX2_init_25 rfl 0 rfl ?_
  refine j_bipush hX 12 dX2_init_26 (by decide) ?_
  refine j_newa (atype := .int) hX 0 rfl qAint rfl (12, .inl (fun _ => 0)) (fun _ => rfl) (by decide) (by decide) (Nat.le_of_ble_eq_true rfl) ⟨Nat.le_of_ble_eq_true rfl, Nat.le_of_ble_eq_true rfl⟩ dX2_init_28 (fun qq3 => ?_)
  change J X 3 36 [(q0, .inr (6, [.int 0, .ref qq1, .ref qq2, .null, .null, .null, .null])), (qq1, .inl (t 0, 12, .inl (fun _ => 0))), (qq2, .inl (t 0, 12, .inl (fun _ => 0))), (qq3, .inl (t 0, 12, .inl (fun _ => 0)))] 30 [(0, .ref q0)] [.ref qq3, .ref q0]
  refine j_putF hX hi [(q0, .inr (6, [.int 0, .ref qq1, .ref qq2, .ref qq3, .null, .null, .null])), (qq1, .inl (t 0, 12, .inl (fun _ => 0))), (qq2, .inl (t 0, 12, .inl (fun _ => 0))), (qq3, .inl (t 0, 12, .inl (fun _ => 0)))] tyX2 dX2_init_30 inX2 tyX2_ok nmX2 3 q61 0 rfl rfl (by decide) rfl rfl rfl rfl rfl rfl (Nat.le_of_ble_eq_true rfl) rfl ?_
  refine j_aload_n hX dX2_init_33 rfl 0 rfl ?_
  refine j_bipush hX 12 dX2_init_34 (by decide) ?_
  refine j_newa (atype := .int) hX 0 rfl qAint rfl (12, .inl (fun _ => 0)) (fun _ => rfl) (by decide) (by decide) (Nat.le_of_ble_eq_true rfl) ⟨Nat.le_of_ble_eq_true rfl, Nat.le_of_ble_eq_true rfl⟩ dX2_init_36 (fun qq4 => ?_)
  change J X 4 48 [(q0, .inr (6, [.int 0, .ref qq1, .ref qq2, .ref qq3, .null, .null, .null])), (qq1, .inl (t 0, 12, .inl (fun _ => 0))), (qq2, .inl (t 0, 12, .inl (fun _ => 0))), (qq3, .inl (t 0, 12, .inl (fun _ => 0))), (qq4, .inl (t 0, 12, .inl (fun _ => 0)))] 38 [(0, .ref q0)] [.ref qq4, .ref q0]
  refine j_putF hX hi [(q0, .inr (6, [.int 0, .ref qq1, .ref qq2, .ref qq3, .ref qq4, .null, .null])), (qq1, .inl (t 0, 12, .inl (fun _ => 0))), (qq2, .inl (t 0, 12, .inl (fun _ => 0))), (qq3, .inl (t 0, 12, .inl (fun _ => 0))), (qq4, .inl (t 0, 12, .inl (fun _ => 0)))] tyX2 dX2_init_38 inX2 tyX2_ok nmX2 4 q62 0 rfl rfl (by decide) rfl rfl rfl rfl rfl rfl (Nat.le_of_ble_eq_true rfl) rfl ?_
  refine j_aload_n hX dX2_init_41 rfl 0 rfl ?_
  refine j_bipush hX 12 dX2_init_42 (by decide) ?_
  refine j_newa (atype := .int) hX 0 rfl qAint rfl (12, .inl (fun _ => 0)) (fun _ => rfl) (by decide) (by decide) (Nat.le_of_ble_eq_true rfl) ⟨Nat.le_of_ble_eq_true rfl, Nat.le_of_ble_eq_true rfl⟩ dX2_init_44 (fun qq5 => ?_)
  change J X 5 60 [(q0, .inr (6, [.int 0, .ref qq1, .ref qq2, .ref qq3, .ref qq4, .null, .null])), (qq1, .inl (t 0, 12, .inl (fun _ => 0))), (qq2, .inl (t 0, 12, .inl (fun _ => 0))), (qq3, .inl (t 0, 12, .inl (fun _ => 0))), (qq4, .inl (t 0, 12, .inl (fun _ => 0))), (qq5, .inl (t 0, 12, .inl (fun _ => 0)))] 46 [(0, .ref q0)] [.ref qq5, .ref q0]
  refine j_putF hX hi [(q0, .inr (6, [.int 0, .ref qq1, .ref qq2, .ref qq3, .ref qq4, .ref qq5, .null])), (qq1, .inl (t 0, 12, .inl (fun _ => 0))), (qq2, .inl (t 0, 12, .inl (fun _ => 0))), (qq3, .inl (t 0, 12, .inl (fun _ => 0))), (qq4, .inl (t 0, 12, .inl (fun _ => 0))), (qq5, .inl (t 0, 12, .inl (fun _ => 0)))] tyX2 dX2_init_46 inX2 tyX2_ok nmX2 5 q63 0 rfl rfl (by decide) rfl rfl rfl rfl rfl rfl (Nat.le_of_ble_eq_true rfl) rfl ?_
  refine j_aload_n hX dX2_init_49 rfl 0 rfl ?_
  refine j_bipush hX 18 dX2_init_50 (by decide) ?_
  refine j_newa (atype := .int) hX 0 rfl qAint rfl (18, .inl (fun _ => 0)) (fun _ => rfl) (by decide) (by decide) (Nat.le_of_ble_eq_true rfl) ⟨Nat.le_of_ble_eq_true rfl, Nat.le_of_ble_eq_true rfl⟩ dX2_init_52 (fun qq6 => ?_)
  change J X 6 78 [(q0, .inr (6, [.int 0, .ref qq1, .ref qq2, .ref qq3, .ref qq4, .ref qq5, .null])), (qq1, .inl (t 0, 12, .inl (fun _ => 0))), (qq2, .inl (t 0, 12, .inl (fun _ => 0))), (qq3, .inl (t 0, 12, .inl (fun _ => 0))), (qq4, .inl (t 0, 12, .inl (fun _ => 0))), (qq5, .inl (t 0, 12, .inl (fun _ => 0))), (qq6, .inl (t 0, 18, .inl (fun _ => 0)))] 54 [(0, .ref q0)] [.ref qq6, .ref q0]
  refine j_putF hX hi [(q0, .inr (6, [.int 0, .ref qq1, .ref qq2, .ref qq3, .ref qq4, .ref qq5, .ref qq6])), (qq1, .inl (t 0, 12, .inl (fun _ => 0))), (qq2, .inl (t 0, 12, .inl (fun _ => 0))), (qq3, .inl (t 0, 12, .inl (fun _ => 0))), (qq4, .inl (t 0, 12, .inl (fun _ => 0))), (qq5, .inl (t 0, 12, .inl (fun _ => 0))), (qq6, .inl (t 0, 18, .inl (fun _ => 0)))] tyX2 dX2_init_54 inX2 tyX2_ok nmX2 6 q64 0 rfl rfl (by decide) rfl rfl rfl rfl rfl rfl (Nat.le_of_ble_eq_true rfl) rfl ?_
  refine j_aload_n hX dX2_init_57 rfl 0 rfl ?_
  refine j_get hX dX2_init_58 inX2 6 q64 0 rfl rfl (by decide) rfl rfl ?_
  refine j_iconst hX (-1) dX2_init_61 (by decide) ?_
  obtain ⟨v9, h9, e9⟩ := j7_fill (n := 18) (fun _ => 0) (-1) (by omega)
  refine j_callS (a := 6) (b := 78) (st := []) hX (k_J7_fill_53178 (ad := fun _ => qq6) (o := 0) 18 (fun _ => 0) (-1) v9 h9) q55 q56 q4 q57 (n9 := 2) rfl ⟨by decide +kernel, by decide +kernel⟩ dX2_init_62 (Nat.le_of_ble_eq_true rfl) ⟨Nat.le_of_ble_eq_true rfl, Nat.le_of_ble_eq_true rfl⟩ (fun w : va_W => [(q0, .inr (6, [.int 0, .ref qq1, .ref qq2, .ref qq3, .ref qq4, .ref qq5, .ref qq6])), (qq1, .inl (t 0, 12, .inl (fun _ => 0))), (qq2, .inl (t 0, 12, .inl (fun _ => 0))), (qq3, .inl (t 0, 12, .inl (fun _ => 0))), (qq4, .inl (t 0, 12, .inl (fun _ => 0))), (qq5, .inl (t 0, 12, .inl (fun _ => 0)))] ++ w) (jFr_l _) rfl rfl (fun v w hvw => ?_)
  obtain ⟨rfl, rfl⟩ := hvw
  change J X 6 78 [(q0, .inr (6, [.int 0, .ref qq1, .ref qq2, .ref qq3, .ref qq4, .ref qq5, .ref qq6])), (qq1, .inl (t 0, 12, .inl (fun _ => 0))), (qq2, .inl (t 0, 12, .inl (fun _ => 0))), (qq3, .inl (t 0, 12, .inl (fun _ => 0))), (qq4, .inl (t 0, 12, .inl (fun _ => 0))), (qq5, .inl (t 0, 12, .inl (fun _ => 0))), (qq6, .inl (t 0, 18, .inl v9))] 65 [(0, .ref q0)] []
  refine j_arr hX 6 (18, .inl (fun _ => -1)) rfl (jcell_i e9) [(q0, .inr (6, [.int 0, .ref qq1, .ref qq2, .ref qq3, .ref qq4, .ref qq5, .ref qq6])), (qq1, .inl (t 0, 12, .inl (fun _ => 0))), (qq2, .inl (t 0, 12, .inl (fun _ => 0))), (qq3, .inl (t 0, 12, .inl (fun _ => 0))), (qq4, .inl (t 0, 12, .inl (fun _ => 0))), (qq5, .inl (t 0, 12, .inl (fun _ => 0))), (qq6, .inl (t 0, 18, .inl (fun _ => -1)))] rfl ?_
  exact j_vret hX hE dX2_init_65 (Nat.le_of_ble_eq_true rfl) (Nat.le_of_ble_eq_true rfl) ⟨rfl, (fun k => [q0, qq1, qq2, qq3, qq4, qq5, qq6].getD k 0), rfl, rfl⟩
set_option maxHeartbeats 4000000 in
set_option maxRecDepth 100000 in
theorem k_X8_init {l : Launch} {D : va_G} {t : Nat → ClassId} {q0 : Nat} : cm l D (jT t) yX8_init cX8_init 1 none { frames := 2, cells := 19, slots := 2066, locals := 43 } [.ref q0] [(q0, .inr (11, [.null, .null, .null, .int 0, .int 0, .int 0, .int 0, .int 0, .int 0, .int 0]))] (fun v w => v = none ∧ ∃ z : Nat → Nat, z 0 = q0 ∧ w = wS t z 0 0 (fun _ => 0) (fun _ => 0) (fun _ => 0) (fun _ => 0) (fun _ => 0) (fun _ => -1) 0 0 (fun _ => 0) (fun _ => 0) (fun _ => 0) (fun _ => 0) (fun _ => 0) (fun _ => 0) 0 (fun _ => 0) (fun _ => 0) (fun _ => 0) (fun _ => 0) 0 20 0 0 0 0 0) := by
  refine cmI_of RX8 rfl rfl (by decide +kernel) (Nat.le_of_ble_eq_true rfl) (fun X hX hE hi => ?_)
  change J X 0 0 [(q0, .inr (11, [.null, .null, .null, .int 0, .int 0, .int 0, .int 0, .int 0, .int 0, .int 0]))] 0 [(0, .ref q0)] []
  refine j_aload_n hX dX8_init_0 rfl 0 rfl ?_
  refine j_objInit hX q48 dX8_init_1 (Nat.le_of_ble_eq_true rfl) ⟨by decide, by decide⟩ ?_
  refine j_aload_n hX dX8_init_4 rfl 0 rfl ?_
  refine j_new hX inX2 tyX2 tyX2_ok q49 q50 q3 (ci := 6) rfl [.int 0, .null, .null, .null, .null, .null, .null] (fun j hj => by rcases (show j = 0 ∨ j = 1 ∨ j = 2 ∨ j = 3 ∨ j = 4 ∨ j = 5 ∨ j = 6 by omega) with rfl | rfl | rfl | rfl | rfl | rfl | rfl <;> rfl) ⟨Nat.le_of_ble_eq_true rfl, Nat.le_of_ble_eq_true rfl⟩ dX8_init_5 (fun qq1 => ?_)
  change J X 1 7 ([(q0, .inr (11, [.null, .null, .null, .int 0, .int 0, .int 0, .int 0, .int 0, .int 0, .int 0]))] ++ [(qq1, .inr (6, [.int 0, .null, .null, .null, .null, .null, .null]))]) 8 [(0, .ref q0)] [.ref qq1, .ref q0]
  refine j_dup hX dX8_init_8 rfl ?_
  refine j_callI (a := 1) (b := 7) (st := [.ref qq1, .ref q0]) hX (k_X2_init (t := t) (q0 := qq1)) q51 q52 q3 q53 (n9 := 0) rfl ⟨by decide +kernel, by decide +kernel⟩ rfl dX8_init_9 (Nat.le_of_ble_eq_true rfl) ⟨Nat.le_of_ble_eq_true rfl, Nat.le_of_ble_eq_true rfl⟩ (fun w : va_W => [(q0, .inr (11, [.null, .null, .null, .int 0, .int 0, .int 0, .int 0, .int 0, .int 0, .int 0]))] ++ w) (jFr_l _) rfl rfl (fun v w hvw => ?_)
  obtain ⟨rfl, z1, hz1, rfl⟩ := hvw
  subst hz1
  change J X 7 85 ([(q0, .inr (11, [.null, .null, .null, .int 0, .int 0, .int 0, .int 0, .int 0, .int 0, .int 0]))] ++ wH t z1 0 0 (fun _ => 0) (fun _ => 0) (fun _ => 0) (fun _ => 0) (fun _ => 0) (fun _ => -1)) 12 [(0, .ref q0)] [.ref (z1 0), .ref q0]
  refine j_putF hX hi ([(q0, .inr (11, [.ref (z1 0), .null, .null, .int 0, .int 0, .int 0, .int 0, .int 0, .int 0, .int 0]))] ++ wH t z1 0 0 (fun _ => 0) (fun _ => 0) (fun _ => 0) (fun _ => 0) (fun _ => 0) (fun _ => -1)) tyX8 dX8_init_12 inX8 tyX8_ok nmX8 0 q90 0 rfl rfl (by decide) rfl rfl rfl rfl rfl rfl (Nat.le_of_ble_eq_true rfl) rfl ?_
  refine j_aload_n hX dX8_init_15 rfl 0 rfl ?_
  refine j_new hX inX5 tyX5 tyX5_ok q65 q66 q5 (ci := 9) rfl [.int 0, .int 0, .null, .null, .null, .null, .null, .null] (fun j hj => by rcases (show j = 0 ∨ j = 1 ∨ j = 2 ∨ j = 3 ∨ j = 4 ∨ j = 5 ∨ j = 6 ∨ j = 7 by omega) with rfl | rfl | rfl | rfl | rfl | rfl | rfl | rfl <;> rfl) ⟨Nat.le_of_ble_eq_true rfl, Nat.le_of_ble_eq_true rfl⟩ dX8_init_16 (fun qq2 => ?_)
  change J X 8 93 (([(q0, .inr (11, [.ref (z1 0), .null, .null, .int 0, .int 0, .int 0, .int 0, .int 0, .int 0, .int 0]))] ++ wH t z1 0 0 (fun _ => 0) (fun _ => 0) (fun _ => 0) (fun _ => 0) (fun _ => 0) (fun _ => -1)) ++ [(qq2, .inr (9, [.int 0, .int 0, .null, .null, .null, .null, .null, .null]))]) 19 [(0, .ref q0)] [.ref qq2, .ref q0]
  refine j_dup hX dX8_init_19 rfl ?_
  refine j_callIN (a := 8) (b := 93) (st := [.ref qq2, .ref q0]) hX (k_X5_init (t := t) (q0 := qq2)) q67 q68 q5 q69 (n9 := 0) rfl ⟨by decide +kernel, by decide +kernel⟩ rfl dX8_init_20 (Nat.le_of_ble_eq_true rfl) ⟨Nat.le_of_ble_eq_true rfl, Nat.le_of_ble_eq_true rfl⟩ (fun w : va_W => ([(q0, .inr (11, [.ref (z1 0), .null, .null, .int 0, .int 0, .int 0, .int 0, .int 0, .int 0, .int 0]))] ++ wH t z1 0 0 (fun _ => 0) (fun _ => 0) (fun _ => 0) (fun _ => 0) (fun _ => 0) (fun _ => -1)) ++ w) (jFr_l _) rfl rfl (fun v w hvw => ?_)
  obtain ⟨rfl, z2, hz2, rfl⟩ := hvw
  subst hz2
  change J X 14 141 (([(q0, .inr (11, [.ref (z1 0), .null, .null, .int 0, .int 0, .int 0, .int 0, .int 0, .int 0, .int 0]))] ++ wH t z1 0 0 (fun _ => 0) (fun _ => 0) (fun _ => 0) (fun _ => 0) (fun _ => 0) (fun _ => -1)) ++ wR t z2 0 0 0 (fun _ => 0) (fun _ => 0) (fun _ => 0) (fun _ => 0) (fun _ => 0) (fun _ => 0)) 23 [(0, .ref q0)] [.ref (z2 0), .ref q0]
  refine j_putF hX hi (([(q0, .inr (11, [.ref (z1 0), .ref (z2 0), .null, .int 0, .int 0, .int 0, .int 0, .int 0, .int 0, .int 0]))] ++ wH t z1 0 0 (fun _ => 0) (fun _ => 0) (fun _ => 0) (fun _ => 0) (fun _ => 0) (fun _ => -1)) ++ wR t z2 0 0 0 (fun _ => 0) (fun _ => 0) (fun _ => 0) (fun _ => 0) (fun _ => 0) (fun _ => 0)) tyX8 dX8_init_23 inX8 tyX8_ok nmX8 1 q93 0 rfl rfl (by decide) rfl rfl rfl rfl rfl rfl (Nat.le_of_ble_eq_true rfl) rfl ?_
  refine j_aload_n hX dX8_init_26 rfl 0 rfl ?_
  refine j_new hX inX0 tyX0 tyX0_ok q79 q80 q6 (ci := 4) rfl [.int 0, .null, .null, .null, .null] (fun j hj => by rcases (show j = 0 ∨ j = 1 ∨ j = 2 ∨ j = 3 ∨ j = 4 by omega) with rfl | rfl | rfl | rfl | rfl <;> rfl) ⟨Nat.le_of_ble_eq_true rfl, Nat.le_of_ble_eq_true rfl⟩ dX8_init_27 (fun qq3 => ?_)
  change J X 15 146 ((([(q0, .inr (11, [.ref (z1 0), .ref (z2 0), .null, .int 0, .int 0, .int 0, .int 0, .int 0, .int 0, .int 0]))] ++ wH t z1 0 0 (fun _ => 0) (fun _ => 0) (fun _ => 0) (fun _ => 0) (fun _ => 0) (fun _ => -1)) ++ wR t z2 0 0 0 (fun _ => 0) (fun _ => 0) (fun _ => 0) (fun _ => 0) (fun _ => 0) (fun _ => 0)) ++ [(qq3, .inr (4, [.int 0, .null, .null, .null, .null]))]) 30 [(0, .ref q0)] [.ref qq3, .ref q0]
  refine j_dup hX dX8_init_30 rfl ?_
  refine j_callIN (a := 15) (b := 146) (st := [.ref qq3, .ref q0]) hX (k_X0_init (t := t) (q0 := qq3)) q81 q82 q6 q83 (n9 := 0) rfl ⟨by decide +kernel, by decide +kernel⟩ rfl dX8_init_31 (Nat.le_of_ble_eq_true rfl) ⟨Nat.le_of_ble_eq_true rfl, Nat.le_of_ble_eq_true rfl⟩ (fun w : va_W => (([(q0, .inr (11, [.ref (z1 0), .ref (z2 0), .null, .int 0, .int 0, .int 0, .int 0, .int 0, .int 0, .int 0]))] ++ wH t z1 0 0 (fun _ => 0) (fun _ => 0) (fun _ => 0) (fun _ => 0) (fun _ => 0) (fun _ => -1)) ++ wR t z2 0 0 0 (fun _ => 0) (fun _ => 0) (fun _ => 0) (fun _ => 0) (fun _ => 0) (fun _ => 0)) ++ w) (jFr_l _) rfl rfl (fun v w hvw => ?_)
  obtain ⟨rfl, z3, hz3, rfl⟩ := hvw
  subst hz3
  change J X 19 2066 ((([(q0, .inr (11, [.ref (z1 0), .ref (z2 0), .null, .int 0, .int 0, .int 0, .int 0, .int 0, .int 0, .int 0]))] ++ wH t z1 0 0 (fun _ => 0) (fun _ => 0) (fun _ => 0) (fun _ => 0) (fun _ => 0) (fun _ => -1)) ++ wR t z2 0 0 0 (fun _ => 0) (fun _ => 0) (fun _ => 0) (fun _ => 0) (fun _ => 0) (fun _ => 0)) ++ wB t z3 0 0 (fun _ => 0) (fun _ => 0) (fun _ => 0) (fun _ => 0)) 34 [(0, .ref q0)] [.ref (z3 0), .ref q0]
  refine j_putF hX hi ((([(q0, .inr (11, [.ref (z1 0), .ref (z2 0), .ref (z3 0), .int 0, .int 0, .int 0, .int 0, .int 0, .int 0, .int 0]))] ++ wH t z1 0 0 (fun _ => 0) (fun _ => 0) (fun _ => 0) (fun _ => 0) (fun _ => 0) (fun _ => -1)) ++ wR t z2 0 0 0 (fun _ => 0) (fun _ => 0) (fun _ => 0) (fun _ => 0) (fun _ => 0) (fun _ => 0)) ++ wB t z3 0 0 (fun _ => 0) (fun _ => 0) (fun _ => 0) (fun _ => 0)) tyX8 dX8_init_34 inX8 tyX8_ok nmX8 2 q96 0 rfl rfl (by decide) rfl rfl rfl rfl rfl rfl (Nat.le_of_ble_eq_true rfl) rfl ?_
  refine j_aload_n hX dX8_init_37 rfl 0 rfl ?_
  refine j_iconst hX 0 dX8_init_38 (by decide) ?_
  refine j_put hX ((([(q0, .inr (11, [.ref (z1 0), .ref (z2 0), .ref (z3 0), .int 0, .int 0, .int 0, .int 0, .int 0, .int 0, .int 0]))] ++ wH t z1 0 0 (fun _ => 0) (fun _ => 0) (fun _ => 0) (fun _ => 0) (fun _ => 0) (fun _ => -1)) ++ wR t z2 0 0 0 (fun _ => 0) (fun _ => 0) (fun _ => 0) (fun _ => 0) (fun _ => 0) (fun _ => 0)) ++ wB t z3 0 0 (fun _ => 0) (fun _ => 0) (fun _ => 0) (fun _ => 0)) tyX8 dX8_init_39 inX8 tyX8_ok nmX8 3 q98 0 rfl rfl (by decide) rfl rfl rfl rfl rfl (Nat.le_of_ble_eq_true rfl) rfl ?_
  refine j_aload_n hX dX8_init_42 rfl 0 rfl ?_
  refine j_bipush hX 20 dX8_init_43 (by decide) ?_
  refine j_put hX ((([(q0, .inr (11, [.ref (z1 0), .ref (z2 0), .ref (z3 0), .int 0, .int 20, .int 0, .int 0, .int 0, .int 0, .int 0]))] ++ wH t z1 0 0 (fun _ => 0) (fun _ => 0) (fun _ => 0) (fun _ => 0) (fun _ => 0) (fun _ => -1)) ++ wR t z2 0 0 0 (fun _ => 0) (fun _ => 0) (fun _ => 0) (fun _ => 0) (fun _ => 0) (fun _ => 0)) ++ wB t z3 0 0 (fun _ => 0) (fun _ => 0) (fun _ => 0) (fun _ => 0)) tyX8 dX8_init_45 inX8 tyX8_ok nmX8 4 q100 0 rfl rfl (by decide) rfl rfl rfl rfl rfl (Nat.le_of_ble_eq_true rfl) rfl ?_
  refine j_aload_n hX dX8_init_48 rfl 0 rfl ?_
  refine j_iconst hX 0 dX8_init_49 (by decide) ?_
  refine j_put hX ((([(q0, .inr (11, [.ref (z1 0), .ref (z2 0), .ref (z3 0), .int 0, .int 20, .int 0, .int 0, .int 0, .int 0, .int 0]))] ++ wH t z1 0 0 (fun _ => 0) (fun _ => 0) (fun _ => 0) (fun _ => 0) (fun _ => 0) (fun _ => -1)) ++ wR t z2 0 0 0 (fun _ => 0) (fun _ => 0) (fun _ => 0) (fun _ => 0) (fun _ => 0) (fun _ => 0)) ++ wB t z3 0 0 (fun _ => 0) (fun _ => 0) (fun _ => 0) (fun _ => 0)) tyX8 dX8_init_50 inX8 tyX8_ok nmX8 5 q102 0 rfl rfl (by decide) rfl rfl rfl rfl rfl (Nat.le_of_ble_eq_true rfl) rfl ?_
  refine j_aload_n hX dX8_init_53 rfl 0 rfl ?_
  refine j_iconst hX 0 dX8_init_54 (by decide) ?_
  refine j_put hX ((([(q0, .inr (11, [.ref (z1 0), .ref (z2 0), .ref (z3 0), .int 0, .int 20, .int 0, .int 0, .int 0, .int 0, .int 0]))] ++ wH t z1 0 0 (fun _ => 0) (fun _ => 0) (fun _ => 0) (fun _ => 0) (fun _ => 0) (fun _ => -1)) ++ wR t z2 0 0 0 (fun _ => 0) (fun _ => 0) (fun _ => 0) (fun _ => 0) (fun _ => 0) (fun _ => 0)) ++ wB t z3 0 0 (fun _ => 0) (fun _ => 0) (fun _ => 0) (fun _ => 0)) tyX8 dX8_init_55 inX8 tyX8_ok nmX8 6 q104 0 rfl rfl (by decide) rfl rfl rfl rfl rfl (Nat.le_of_ble_eq_true rfl) rfl ?_
  refine j_aload_n hX dX8_init_58 rfl 0 rfl ?_
  refine j_iconst hX 0 dX8_init_59 (by decide) ?_
  refine j_put hX ((([(q0, .inr (11, [.ref (z1 0), .ref (z2 0), .ref (z3 0), .int 0, .int 20, .int 0, .int 0, .int 0, .int 0, .int 0]))] ++ wH t z1 0 0 (fun _ => 0) (fun _ => 0) (fun _ => 0) (fun _ => 0) (fun _ => 0) (fun _ => -1)) ++ wR t z2 0 0 0 (fun _ => 0) (fun _ => 0) (fun _ => 0) (fun _ => 0) (fun _ => 0) (fun _ => 0)) ++ wB t z3 0 0 (fun _ => 0) (fun _ => 0) (fun _ => 0) (fun _ => 0)) tyX8 dX8_init_60 inX8 tyX8_ok nmX8 7 q106 0 rfl rfl (by decide) rfl rfl rfl rfl rfl (Nat.le_of_ble_eq_true rfl) rfl ?_
  refine j_aload_n hX dX8_init_63 rfl 0 rfl ?_
  refine j_iconst hX 0 dX8_init_64 (by decide) ?_
  refine j_put hX ((([(q0, .inr (11, [.ref (z1 0), .ref (z2 0), .ref (z3 0), .int 0, .int 20, .int 0, .int 0, .int 0, .int 0, .int 0]))] ++ wH t z1 0 0 (fun _ => 0) (fun _ => 0) (fun _ => 0) (fun _ => 0) (fun _ => 0) (fun _ => -1)) ++ wR t z2 0 0 0 (fun _ => 0) (fun _ => 0) (fun _ => 0) (fun _ => 0) (fun _ => 0) (fun _ => 0)) ++ wB t z3 0 0 (fun _ => 0) (fun _ => 0) (fun _ => 0) (fun _ => 0)) tyX8 dX8_init_65 inX8 tyX8_ok nmX8 8 q108 0 rfl rfl (by decide) rfl rfl rfl rfl rfl (Nat.le_of_ble_eq_true rfl) rfl ?_
  refine j_aload_n hX dX8_init_68 rfl 0 rfl ?_
  refine j_iconst hX 0 dX8_init_69 (by decide) ?_
  refine j_put hX ((([(q0, .inr (11, [.ref (z1 0), .ref (z2 0), .ref (z3 0), .int 0, .int 20, .int 0, .int 0, .int 0, .int 0, .int 0]))] ++ wH t z1 0 0 (fun _ => 0) (fun _ => 0) (fun _ => 0) (fun _ => 0) (fun _ => 0) (fun _ => -1)) ++ wR t z2 0 0 0 (fun _ => 0) (fun _ => 0) (fun _ => 0) (fun _ => 0) (fun _ => 0) (fun _ => 0)) ++ wB t z3 0 0 (fun _ => 0) (fun _ => 0) (fun _ => 0) (fun _ => 0)) tyX8 dX8_init_70 inX8 tyX8_ok nmX8 9 q110 0 rfl rfl (by decide) rfl rfl rfl rfl rfl (Nat.le_of_ble_eq_true rfl) rfl ?_
  exact j_vret hX hE dX8_init_73 (Nat.le_of_ble_eq_true rfl) (Nat.le_of_ble_eq_true rfl) ⟨rfl, (fun k => [q0, z1 0, z1 1, z1 2, z1 3, z1 4, z1 5, z1 6, z2 0, z2 1, z2 2, z2 3, z2 4, z2 5, z2 6, z3 0, z3 1, z3 2, z3 3, z3 4].getD k 0), rfl, rfl⟩
