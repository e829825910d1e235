/-! THE CONSTRUCTORS -/
abbrev zrow (cT : Nat → Nat) (n : Nat) : va_E := .inl (cT 0, n, .inl (fun _ => 0))
abbrev zro2 (cT : Nat → Nat) (n : Nat) (r : Nat → Nat) : va_E := .inl (cT 1, n, .inr (.inr (.inr (.inr (fun i => some (r i))))))
abbrev e0X1 : va_E := .inr (0, [.null, .null, .null, .null, .null, .null, .int 0, .int 0, .int 0, .int 0])
abbrev e0X2 : va_E := .inr (1, [.null, .null])
abbrev e0X3 : va_E := .inr (2, [.null, .null])
abbrev e0X4 : va_E := .inr (3, [.null, .null, .null, .null, .int 0, .int 0])
def kF0 (ci : Nat) (cT : Nat → Nat) (b : Nat) (r : Nat → Nat → Nat) : va_W := [(b, .inr (ci, [.ref (r 0 0), .ref (r 0 1)])), (r 0 0, zro2 cT 3 (r 1)), (r 1 0, zrow cT 24), (r 1 1, zrow cT 24), (r 1 2, zrow cT 24), (r 0 1, zrow cT 24)]
def kF1 (cT : Nat → Nat) (b : Nat) (r : Nat → Nat → Nat) : va_W := [(b, .inr (0, [.ref (r 0 0), .ref (r 0 1), .ref (r 0 2), .ref (r 0 3), .ref (r 0 4), .ref (r 0 5), .int 0, .int 0, .int 0, .int 0])), (r 0 0, zrow cT 4), (r 0 1, zrow cT 24), (r 0 2, zrow cT 24), (r 0 3, zro2 cT 3 (r 1)), (r 0 4, zro2 cT 3 (r 2)), (r 1 0, zrow cT 24), (r 1 1, zrow cT 24), (r 1 2, zrow cT 24), (r 2 0, zrow cT 24), (r 2 1, zrow cT 24), (r 2 2, zrow cT 24), (r 0 5, zrow cT 24)]
def kF4 (cT : Nat → Nat) (b : Nat) (r : Nat → Nat → Nat) : va_W := [(b, .inr (3, [.ref (r 0 0), .ref (r 0 7), .ref (r 0 10), .ref (r 0 13), .int 0, .int 30]))] ++ (kF1 cT (r 0 0) (fun g i => match g with | 0 => r 0 (i + 1) | 1 => r 1 i | _ => r 2 i) ++ ([(r 0 13, zrow cT 24)] ++ (kF0 1 cT (r 0 7) (fun g i => match g with | 0 => r 0 (i + 8) | _ => r 3 i) ++ kF0 2 cT (r 0 10) (fun g i => match g with | 0 => r 0 (i + 11) | _ => r 4 i))))
theorem k_X0_init_X2 (l : Launch) : zMetk l yX0_init cX0_init 1 1 5 99 e0X2 (kF0 1) := by
  refine zMetk_of (by decide +kernel) (Nat.le_of_ble_eq_true rfl) rfl (fun D cT b sz => ?_)
  show Wm zTI l (rmx 1 5 99) RX0 cX0_init 1 none D cT zI [] (zAk b sz) (fun below args s => MQ below (zQk D b sz ((kF0 1) cT)) args s 5 99 (zAk b sz)) [(b, e0X2)] 0 [(0, .ref b)] [] (fun _ _ => 0) 0 0
  refine wm_aload_n 1 rfl dX0_init_0 rfl rfl ?_
  refine wk_obj 4 rfl dX0_init_1 aw_2_21 aw_1_13 aw_1_14 ⟨Nat.le_of_ble_eq_true rfl, Nat.le_of_ble_eq_true rfl⟩ (Nat.le_of_ble_eq_true rfl) ?_
  refine wm_aload_n 5 rfl dX0_init_4 rfl rfl ?_
  refine wm_iconst (v := 3) 6 rfl dX0_init_5 (by decide) ?_
  refine wm_bipush (v := 24) 8 rfl dX0_init_6 (by decide) ?_
  refine wk_mna (N' := 3) (K' := 24) 12 rfl dX0_init_8 aw_2_22 aw_2_3 (by decide) (by decide) (by decide) (by decide) (by decide) (by decide) (by decide) ⟨Nat.le_of_ble_eq_true rfl, Nat.le_of_ble_eq_true rfl⟩ (fun a0 ra0 => ?_)
  refine wk_putF (ci := 1) (j := 0) (q0 := 0) (ty0 := tyX2) 15 rfl dX0_init_12 rfl zin_X2 (by decide) aw_2_23 rfl rfl tyX2_ok nmX2 rfl (tyX2_ok 0 (by decide)) rfl rfl (Nat.le_of_ble_eq_true rfl) rfl rfl ?_
  refine wm_aload_n 16 rfl dX0_init_15 rfl rfl ?_
  refine wm_bipush (v := 24) 18 rfl dX0_init_16 (by decide) ?_
  refine wk_newa (a0 := (24, .inl (fun _ => 0))) (i := 0) (N' := 24) 20 rfl dX0_init_18 aw_2_3 rfl rfl ra_int (fun _ => rfl) (by decide) (by decide) (by decide) ⟨Nat.le_of_ble_eq_true rfl, Nat.le_of_ble_eq_true rfl⟩ (fun a1 => ?_)
  refine wk_putF (ci := 1) (j := 1) (q0 := 0) (ty0 := tyX2) 23 rfl dX0_init_20 rfl zin_X2 (by decide) aw_3_0 rfl rfl tyX2_ok nmX2 rfl (tyX2_ok 1 (by decide)) rfl rfl (Nat.le_of_ble_eq_true rfl) rfl rfl ?_
  exact wk_ret dX0_init_23 (Nat.le_of_ble_eq_true rfl) (Nat.le_of_ble_eq_true rfl) (fun g i => match g with | 0 => (match i with | 0 => a0 | _ => a1) | _ => ra0 i) [0, 1, 2, 3, 4, 5] rfl rfl rfl
theorem k_X0_init_X3 (l : Launch) : zMetk l yX0_init cX0_init 1 1 5 99 e0X3 (kF0 2) := by
  refine zMetk_of (by decide +kernel) (Nat.le_of_ble_eq_true rfl) rfl (fun D cT b sz => ?_)
  show Wm zTI l (rmx 1 5 99) RX0 cX0_init 1 none D cT zI [] (zAk b sz) (fun below args s => MQ below (zQk D b sz ((kF0 2) cT)) args s 5 99 (zAk b sz)) [(b, e0X3)] 0 [(0, .ref b)] [] (fun _ _ => 0) 0 0
  refine wm_aload_n 1 rfl dX0_init_0 rfl rfl ?_
  refine wk_obj 4 rfl dX0_init_1 aw_2_21 aw_1_13 aw_1_14 ⟨Nat.le_of_ble_eq_true rfl, Nat.le_of_ble_eq_true rfl⟩ (Nat.le_of_ble_eq_true rfl) ?_
  refine wm_aload_n 5 rfl dX0_init_4 rfl rfl ?_
  refine wm_iconst (v := 3) 6 rfl dX0_init_5 (by decide) ?_
  refine wm_bipush (v := 24) 8 rfl dX0_init_6 (by decide) ?_
  refine wk_mna (N' := 3) (K' := 24) 12 rfl dX0_init_8 aw_2_22 aw_2_3 (by decide) (by decide) (by decide) (by decide) (by decide) (by decide) (by decide) ⟨Nat.le_of_ble_eq_true rfl, Nat.le_of_ble_eq_true rfl⟩ (fun a0 ra0 => ?_)
  refine wk_putF (ci := 2) (j := 0) (q0 := 0) (ty0 := tyX3) 15 rfl dX0_init_12 rfl zin_X3 (by decide) aw_2_23 rfl rfl tyX3_ok nmX3 rfl (tyX3_ok 0 (by decide)) rfl rfl (Nat.le_of_ble_eq_true rfl) rfl rfl ?_
  refine wm_aload_n 16 rfl dX0_init_15 rfl rfl ?_
  refine wm_bipush (v := 24) 18 rfl dX0_init_16 (by decide) ?_
  refine wk_newa (a0 := (24, .inl (fun _ => 0))) (i := 0) (N' := 24) 20 rfl dX0_init_18 aw_2_3 rfl rfl ra_int (fun _ => rfl) (by decide) (by decide) (by decide) ⟨Nat.le_of_ble_eq_true rfl, Nat.le_of_ble_eq_true rfl⟩ (fun a1 => ?_)
  refine wk_putF (ci := 2) (j := 1) (q0 := 0) (ty0 := tyX3) 23 rfl dX0_init_20 rfl zin_X3 (by decide) aw_3_0 rfl rfl tyX3_ok nmX3 rfl (tyX3_ok 1 (by decide)) rfl rfl (Nat.le_of_ble_eq_true rfl) rfl rfl ?_
  exact wk_ret dX0_init_23 (Nat.le_of_ble_eq_true rfl) (Nat.le_of_ble_eq_true rfl) (fun g i => match g with | 0 => (match i with | 0 => a0 | _ => a1) | _ => ra0 i) [0, 1, 2, 3, 4, 5] rfl rfl rfl
theorem k_X2_init_X2 (l : Launch) : zMetk l yX2_init cX2_init 1 2 5 99 e0X2 (kF0 1) := by
  refine zMetk_of (by decide +kernel) (Nat.le_of_ble_eq_true rfl) rfl (fun D cT b sz => ?_)
  show Wm zTI l (rmx 2 5 99) RX2 cX2_init 1 none D cT zI [] (zAk b sz) (fun below args s => MQ below (zQk D b sz ((kF0 1) cT)) args s 5 99 (zAk b sz)) [(b, e0X2)] 0 [(0, .ref b)] [] (fun _ _ => 0) 0 0
  refine wm_aload_n 1 rfl dX2_init_0 rfl rfl ?_
  refine wk_call (X := []) 4 rfl dX2_init_1 (k_X0_init_X2 l) rfl ⟨aw_2_20, aw_2_19, by decide +kernel, by decide +kernel, by decide +kernel⟩ aw_2_18 (List.mem_of_getElem? (i := 2) rfl) ⟨Nat.le_of_ble_eq_true rfl, Nat.le_of_ble_eq_true rfl⟩ (Nat.le_of_ble_eq_true rfl) ⟨Nat.le_of_ble_eq_true rfl, Nat.le_of_ble_eq_true rfl⟩ (fun r0 => ?_)
  exact wk_ret dX2_init_4 (Nat.le_of_ble_eq_true rfl) (Nat.le_of_ble_eq_true rfl) (r0) [0, 1, 2, 3, 4, 5] rfl rfl rfl
theorem k_X3_init_X3 (l : Launch) : zMetk l yX3_init cX3_init 1 2 5 99 e0X3 (kF0 2) := by
  refine zMetk_of (by decide +kernel) (Nat.le_of_ble_eq_true rfl) rfl (fun D cT b sz => ?_)
  show Wm zTI l (rmx 2 5 99) RX3 cX3_init 1 none D cT zI [] (zAk b sz) (fun below args s => MQ below (zQk D b sz ((kF0 2) cT)) args s 5 99 (zAk b sz)) [(b, e0X3)] 0 [(0, .ref b)] [] (fun _ _ => 0) 0 0
  refine wm_aload_n 1 rfl dX3_init_0 rfl rfl ?_
  refine wk_call (X := []) 4 rfl dX3_init_1 (k_X0_init_X3 l) rfl ⟨aw_2_20, aw_2_19, by decide +kernel, by decide +kernel, by decide +kernel⟩ aw_2_18 (List.mem_of_getElem? (i := 4) rfl) ⟨Nat.le_of_ble_eq_true rfl, Nat.le_of_ble_eq_true rfl⟩ (Nat.le_of_ble_eq_true rfl) ⟨Nat.le_of_ble_eq_true rfl, Nat.le_of_ble_eq_true rfl⟩ (fun r0 => ?_)
  exact wk_ret dX3_init_4 (Nat.le_of_ble_eq_true rfl) (Nat.le_of_ble_eq_true rfl) (r0) [0, 1, 2, 3, 4, 5] rfl rfl rfl
theorem k_X1_init_X1 (l : Launch) : zMetk l yX1_init cX1_init 1 1 12 226 e0X1 kF1 := by
  refine zMetk_of (by decide +kernel) (Nat.le_of_ble_eq_true rfl) rfl (fun D cT b sz => ?_)
  show Wm zTI l (rmx 1 12 226) RX1 cX1_init 1 none D cT zI [] (zAk b sz) (fun below args s => MQ below (zQk D b sz (kF1 cT)) args s 12 226 (zAk b sz)) [(b, e0X1)] 0 [(0, .ref b)] [] (fun _ _ => 0) 0 0
  refine wm_aload_n 1 rfl dX1_init_0 rfl rfl ?_
  refine wk_obj 4 rfl dX1_init_1 aw_2_8 aw_1_13 aw_1_14 ⟨Nat.le_of_ble_eq_true rfl, Nat.le_of_ble_eq_true rfl⟩ (Nat.le_of_ble_eq_true rfl) ?_
  refine wm_aload_n 5 rfl dX1_init_4 rfl rfl ?_
  refine wm_iconst (v := 4) 6 rfl dX1_init_5 (by decide) ?_
  refine wk_newa (a0 := (4, .inl (fun _ => 0))) (i := 0) (N' := 4) 8 rfl dX1_init_6 aw_2_3 rfl rfl ra_int (fun _ => rfl) (by decide) (by decide) (by decide) ⟨Nat.le_of_ble_eq_true rfl, Nat.le_of_ble_eq_true rfl⟩ (fun a0 => ?_)
  refine wk_putF (ci := 0) (j := 0) (q0 := 0) (ty0 := tyX1) 11 rfl dX1_init_8 rfl zin_X1 (by decide) aw_2_9 rfl rfl tyX1_ok nmX1 rfl (tyX1_ok 0 (by decide)) rfl rfl (Nat.le_of_ble_eq_true rfl) rfl rfl ?_
  refine wm_aload_n 12 rfl dX1_init_11 rfl rfl ?_
  refine wm_bipush (v := 24) 14 rfl dX1_init_12 (by decide) ?_
  refine wk_newa (a0 := (24, .inl (fun _ => 0))) (i := 0) (N' := 24) 16 rfl dX1_init_14 aw_2_3 rfl rfl ra_int (fun _ => rfl) (by decide) (by decide) (by decide) ⟨Nat.le_of_ble_eq_true rfl, Nat.le_of_ble_eq_true rfl⟩ (fun a1 => ?_)
  refine wk_putF (ci := 0) (j := 1) (q0 := 0) (ty0 := tyX1) 19 rfl dX1_init_16 rfl zin_X1 (by decide) aw_2_10 rfl rfl tyX1_ok nmX1 rfl (tyX1_ok 1 (by decide)) rfl rfl (Nat.le_of_ble_eq_true rfl) rfl rfl ?_
  refine wm_aload_n 20 rfl dX1_init_19 rfl rfl ?_
  refine wm_bipush (v := 24) 22 rfl dX1_init_20 (by decide) ?_
  refine wk_newa (a0 := (24, .inl (fun _ => 0))) (i := 0) (N' := 24) 24 rfl dX1_init_22 aw_2_3 rfl rfl ra_int (fun _ => rfl) (by decide) (by decide) (by decide) ⟨Nat.le_of_ble_eq_true rfl, Nat.le_of_ble_eq_true rfl⟩ (fun a2 => ?_)
  refine wk_putF (ci := 0) (j := 2) (q0 := 0) (ty0 := tyX1) 27 rfl dX1_init_24 rfl zin_X1 (by decide) aw_2_11 rfl rfl tyX1_ok nmX1 rfl (tyX1_ok 2 (by decide)) rfl rfl (Nat.le_of_ble_eq_true rfl) rfl rfl ?_
  refine wm_aload_n 28 rfl dX1_init_27 rfl rfl ?_
  refine wm_iconst (v := 3) 29 rfl dX1_init_28 (by decide) ?_
  refine wm_bipush (v := 24) 31 rfl dX1_init_29 (by decide) ?_
  refine wk_mna (N' := 3) (K' := 24) 35 rfl dX1_init_31 aw_2_12 aw_2_3 (by decide) (by decide) (by decide) (by decide) (by decide) (by decide) (by decide) ⟨Nat.le_of_ble_eq_true rfl, Nat.le_of_ble_eq_true rfl⟩ (fun a3 ra3 => ?_)
  refine wk_putF (ci := 0) (j := 3) (q0 := 0) (ty0 := tyX1) 38 rfl dX1_init_35 rfl zin_X1 (by decide) aw_2_13 rfl rfl tyX1_ok nmX1 rfl (tyX1_ok 3 (by decide)) rfl rfl (Nat.le_of_ble_eq_true rfl) rfl rfl ?_
  refine wm_aload_n 39 rfl dX1_init_38 rfl rfl ?_
  refine wm_iconst (v := 3) 40 rfl dX1_init_39 (by decide) ?_
  refine wm_bipush (v := 24) 42 rfl dX1_init_40 (by decide) ?_
  refine wk_mna (N' := 3) (K' := 24) 46 rfl dX1_init_42 aw_2_12 aw_2_3 (by decide) (by decide) (by decide) (by decide) (by decide) (by decide) (by decide) ⟨Nat.le_of_ble_eq_true rfl, Nat.le_of_ble_eq_true rfl⟩ (fun a4 ra4 => ?_)
  refine wk_putF (ci := 0) (j := 4) (q0 := 0) (ty0 := tyX1) 49 rfl dX1_init_46 rfl zin_X1 (by decide) aw_2_14 rfl rfl tyX1_ok nmX1 rfl (tyX1_ok 4 (by decide)) rfl rfl (Nat.le_of_ble_eq_true rfl) rfl rfl ?_
  refine wm_aload_n 50 rfl dX1_init_49 rfl rfl ?_
  refine wm_bipush (v := 24) 52 rfl dX1_init_50 (by decide) ?_
  refine wk_newa (a0 := (24, .inl (fun _ => 0))) (i := 0) (N' := 24) 54 rfl dX1_init_52 aw_2_3 rfl rfl ra_int (fun _ => rfl) (by decide) (by decide) (by decide) ⟨Nat.le_of_ble_eq_true rfl, Nat.le_of_ble_eq_true rfl⟩ (fun a5 => ?_)
  refine wk_putF (ci := 0) (j := 5) (q0 := 0) (ty0 := tyX1) 57 rfl dX1_init_54 rfl zin_X1 (by decide) aw_2_15 rfl rfl tyX1_ok nmX1 rfl (tyX1_ok 5 (by decide)) rfl rfl (Nat.le_of_ble_eq_true rfl) rfl rfl ?_
  exact wk_ret dX1_init_57 (Nat.le_of_ble_eq_true rfl) (Nat.le_of_ble_eq_true rfl) (fun g i => match g with | 0 => (match i with | 0 => a0 | 1 => a1 | 2 => a2 | 3 => a3 | 4 => a4 | _ => a5) | 1 => ra3 i | _ => ra4 i) [0, 1, 2, 3, 4, 8, 5, 6, 7, 9, 10, 11, 12] rfl rfl rfl
theorem k_X4_init_X4 (l : Launch) : zMetk l yX4_init cX4_init 1 3 26 462 e0X4 kF4 := by
  refine zMetk_of (by decide +kernel) (Nat.le_of_ble_eq_true rfl) rfl (fun D cT b sz => ?_)
  show Wm zTI l (rmx 3 26 462) RX4 cX4_init 1 none D cT zI [] (zAk b sz) (fun below args s => MQ below (zQk D b sz (kF4 cT)) args s 26 462 (zAk b sz)) [(b, e0X4)] 0 [(0, .ref b)] [] (fun _ _ => 0) 0 0
  refine wm_aload_n 1 rfl dX4_init_0 rfl rfl ?_
  refine wk_obj 4 rfl dX4_init_1 aw_1_12 aw_1_13 aw_1_14 ⟨Nat.le_of_ble_eq_true rfl, Nat.le_of_ble_eq_true rfl⟩ (Nat.le_of_ble_eq_true rfl) ?_
  refine wm_aload_n 5 rfl dX4_init_4 rfl rfl ?_
  refine wk_new (ci := 0) (C := RX1) (T := TX1) (N := 10) (ty0 := tyX1) (fs := [.null, .null, .null, .null, .null, .null, .int 0, .int 0, .int 0, .int 0]) 8 rfl dX4_init_5 rfl zin_X1 aw_1_15 aw_1_16 aw_1_17 tyX1_ok (by decide +kernel) ⟨Nat.le_of_ble_eq_true rfl, Nat.le_of_ble_eq_true rfl⟩ (fun a0 => ?_)
  refine wm_dup 9 rfl rfl dX4_init_8 ?_
  refine wk_call 12 rfl dX4_init_9 (k_X1_init_X1 l) rfl ⟨aw_2_7, aw_1_17, by decide +kernel, by decide +kernel, by decide +kernel⟩ aw_2_6 (List.mem_of_getElem? (i := 0) rfl) ⟨Nat.le_of_ble_eq_true rfl, Nat.le_of_ble_eq_true rfl⟩ (Nat.le_of_ble_eq_true rfl) ⟨Nat.le_of_ble_eq_true rfl, Nat.le_of_ble_eq_true rfl⟩ (fun r1 => ?_)
  refine wk_putF (ci := 3) (j := 0) (q0 := 0) (ty0 := tyX4) 15 rfl dX4_init_12 rfl zin_X4 (by decide) aw_1_18 rfl rfl tyX4_ok nmX4 rfl (tyX4_ok 0 (by decide)) rfl rfl (Nat.le_of_ble_eq_true rfl) rfl rfl ?_
  refine wm_aload_n 16 rfl dX4_init_15 rfl rfl ?_
  refine wk_new (ci := 1) (C := RX2) (T := TX2) (N := 2) (ty0 := tyX2) (fs := [.null, .null]) 19 rfl dX4_init_16 rfl zin_X2 aw_1_19 aw_1_20 aw_1_21 tyX2_ok (by decide +kernel) ⟨Nat.le_of_ble_eq_true rfl, Nat.le_of_ble_eq_true rfl⟩ (fun a2 => ?_)
  refine wm_dup 20 rfl rfl dX4_init_19 ?_
  refine wk_call 23 rfl dX4_init_20 (k_X2_init_X2 l) rfl ⟨aw_2_17, aw_1_21, by decide +kernel, by decide +kernel, by decide +kernel⟩ aw_2_16 (List.mem_of_getElem? (i := 1) rfl) ⟨Nat.le_of_ble_eq_true rfl, Nat.le_of_ble_eq_true rfl⟩ (Nat.le_of_ble_eq_true rfl) ⟨Nat.le_of_ble_eq_true rfl, Nat.le_of_ble_eq_true rfl⟩ (fun r3 => ?_)
  refine wk_putF (ci := 3) (j := 1) (q0 := 0) (ty0 := tyX4) 26 rfl dX4_init_23 rfl zin_X4 (by decide) aw_1_22 rfl rfl tyX4_ok nmX4 rfl (tyX4_ok 1 (by decide)) rfl rfl (Nat.le_of_ble_eq_true rfl) rfl rfl ?_
  refine wm_aload_n 27 rfl dX4_init_26 rfl rfl ?_
  refine wk_new (ci := 2) (C := RX3) (T := TX3) (N := 2) (ty0 := tyX3) (fs := [.null, .null]) 30 rfl dX4_init_27 rfl zin_X3 aw_1_23 aw_2_0 aw_2_1 tyX3_ok (by decide +kernel) ⟨Nat.le_of_ble_eq_true rfl, Nat.le_of_ble_eq_true rfl⟩ (fun a4 => ?_)
  refine wm_dup 31 rfl rfl dX4_init_30 ?_
  refine wk_call 34 rfl dX4_init_31 (k_X3_init_X3 l) rfl ⟨aw_3_2, aw_2_1, by decide +kernel, by decide +kernel, by decide +kernel⟩ aw_3_1 (List.mem_of_getElem? (i := 3) rfl) ⟨Nat.le_of_ble_eq_true rfl, Nat.le_of_ble_eq_true rfl⟩ (Nat.le_of_ble_eq_true rfl) ⟨Nat.le_of_ble_eq_true rfl, Nat.le_of_ble_eq_true rfl⟩ (fun r5 => ?_)
  refine wk_putF (ci := 3) (j := 2) (q0 := 0) (ty0 := tyX4) 37 rfl dX4_init_34 rfl zin_X4 (by decide) aw_2_2 rfl rfl tyX4_ok nmX4 rfl (tyX4_ok 2 (by decide)) rfl rfl (Nat.le_of_ble_eq_true rfl) rfl rfl ?_
  refine wm_aload_n 38 rfl dX4_init_37 rfl rfl ?_
  refine wm_bipush (v := 24) 40 rfl dX4_init_38 (by decide) ?_
  refine wk_newa (a0 := (24, .inl (fun _ => 0))) (i := 0) (N' := 24) 42 rfl dX4_init_40 aw_2_3 rfl rfl ra_int (fun _ => rfl) (by decide) (by decide) (by decide) ⟨Nat.le_of_ble_eq_true rfl, Nat.le_of_ble_eq_true rfl⟩ (fun a6 => ?_)
  refine wk_putF (ci := 3) (j := 3) (q0 := 0) (ty0 := tyX4) 45 rfl dX4_init_42 rfl zin_X4 (by decide) aw_2_4 rfl rfl tyX4_ok nmX4 rfl (tyX4_ok 3 (by decide)) rfl rfl (Nat.le_of_ble_eq_true rfl) rfl rfl ?_
  refine wm_aload_n 46 rfl dX4_init_45 rfl rfl ?_
  refine wm_bipush (v := 30) 48 rfl dX4_init_46 (by decide) ?_
  refine wk_put (ci := 3) (j := 5) (q0 := 0) (ty0 := tyX4) 51 rfl dX4_init_48 rfl zin_X4 (by decide) aw_2_5 rfl tyX4_ok nmX4 rfl (tyX4_ok 5 (by decide)) rfl rfl (Nat.le_of_ble_eq_true rfl) rfl rfl ?_
  exact wk_ret dX4_init_51 (Nat.le_of_ble_eq_true rfl) (Nat.le_of_ble_eq_true rfl) (fun g i => match g with | 0 => (match i with | 0 => a0 | 1 => r1 0 0 | 2 => r1 0 1 | 3 => r1 0 2 | 4 => r1 0 3 | 5 => r1 0 4 | 6 => r1 0 5 | 7 => a2 | 8 => r3 0 0 | 9 => r3 0 1 | 10 => a4 | 11 => r5 0 0 | 12 => r5 0 1 | _ => a6) | 1 => r1 1 i | 2 => r1 2 i | 3 => r3 1 i | _ => r5 1 i) [0, 1, 2, 3, 4, 5, 6, 7, 8, 9, 10, 11, 12, 13, 26, 14, 15, 16, 17, 18, 19, 20, 21, 22, 23, 24, 25] rfl rfl rfl
