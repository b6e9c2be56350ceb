-- Books
def cells0 : Nat → Int32 := (upd (upd (upd (upd (upd (upd (upd (upd (upd (upd (upd (upd (fun _ => 0) 539 10) 540 850) 541 600) 542 2) 543 20) 544 0) 545 100) 514 150) 519 180) 524 200) 529 220) 534 160)
theorem c_X0_init {δ : Nv} {m a : Nat} : N δ RX0 cX0_init 3 "<init>" (fun w => ∃ q0_7 q0_19 q0_25 q0_39 q0_55 q0_72 q0_88 q0_103 : Nat, w = [(m, .inr (6, [.null, .null, .null, .null, .null, .int 0])), (a, .inr (0, [.ref q0_25, .ref q0_39, .ref q0_55, .ref q0_72, .ref q0_88, .ref q0_103, .ref q0_7, .ref q0_19, .int 0, .int 0])), (q0_7, .inl (ncI δ, 553, .inl (upd (upd (upd (upd (upd (upd (upd (upd (upd (upd (upd (upd (fun _ => 0) 539 10) 540 850) 541 600) 542 2) 543 20) 544 0) 545 100) 514 150) 519 180) 524 200) 529 220) 534 160))), (q0_19, .inl (ncI δ, 3318, .inl (fun _ => 0))), (q0_25, .inr (5, [.ref q0_7, .int 0, .int 4])), (q0_39, .inr (5, [.ref q0_7, .int 32, .int 11])), (q0_55, .inr (5, [.ref q0_7, .int 472, .int 7])), (q0_72, .inr (5, [.ref q0_7, .int 514, .int 5])), (q0_88, .inr (3, [.ref q0_7, .int 539])), (q0_103, .inr (3, [.ref q0_7, .int 546]))]) 2 8 3887 0 (lv_args 0 [.ref a]) [] [(m, .inr (6, [.null, .null, .null, .null, .null, .int 0])), (a, .inr (0, [.null, .null, .null, .null, .null, .null, .null, .null, .int 0, .int 0]))] := by
  show N δ RX0 cX0_init 3 "<init>" _ 2 8 3887 0 [(0, .ref a)] [] _
  refine n_aload_n dX0_init_0 rfl 0 rfl ?_
  refine n_objInit (idx := 5) (gm1 29 rfl rfl) (gm1 22 rfl rfl) (gm1 23 rfl rfl) (by decide) (Nat.le_of_ble_eq_true rfl) dX0_init_1 ?_
  refine n_sipush (v := 553) dX0_init_4 (by decide) ?_
  refine n_newa (kc := 7) (ks := 3334) (atype := .int) (ty := .int) (gm1 46 rfl rfl) rfl (.inl rfl) 0 rfl (N' := 553) (a0 := (553, .inl (fun _ => 0))) (fun _ => rfl) (by decide) (by decide) (Nat.le_of_ble_eq_true rfl) dX0_init_7 (fun q0_7 => ?_)
  refine n_ws (ws' := [(m, .inr (6, [.null, .null, .null, .null, .null, .int 0])), (a, .inr (0, [.null, .null, .null, .null, .null, .null, .null, .null, .int 0, .int 0])), (q0_7, .inl (ncI δ, 553, .inl (fun _ => 0)))]) rfl ?_
  refine n_astore_n (lv' := [(1, .ref q0_7), (0, .ref a)]) dX0_init_9 rfl (by decide) rfl ?_
  refine n_aload_n dX0_init_10 rfl 1 rfl ?_
  refine n_aload_n dX0_init_11 rfl 0 rfl ?_
  refine n_putF (ref := RX0) 1 6 wGX0 tyX0 tyX0_ok nmX0 rfl rfl (by decide) (gm1 91 rfl rfl) rfl rfl rfl rfl (tyX0_ok 6 (by decide)) rfl rfl (Nat.le_of_ble_eq_true rfl) dX0_init_12 ?_
  refine n_ws (ws' := [(m, .inr (6, [.null, .null, .null, .null, .null, .int 0])), (a, .inr (0, [.null, .null, .null, .null, .null, .null, .ref q0_7, .null, .int 0, .int 0])), (q0_7, .inl (ncI δ, 553, .inl (fun _ => 0)))]) rfl ?_
  refine n_aload_n dX0_init_15 rfl 1 rfl ?_
  refine n_sipush (v := 3318) dX0_init_16 (by decide) ?_
  refine n_newa (kc := 6) (ks := 16) (atype := .int) (ty := .int) (gm1 46 rfl rfl) rfl (.inl rfl) 0 rfl (N' := 3318) (a0 := (3318, .inl (fun _ => 0))) (fun _ => rfl) (by decide) (by decide) (Nat.le_of_ble_eq_true rfl) dX0_init_19 (fun q0_19 => ?_)
  refine n_ws (ws' := [(m, .inr (6, [.null, .null, .null, .null, .null, .int 0])), (a, .inr (0, [.null, .null, .null, .null, .null, .null, .ref q0_7, .null, .int 0, .int 0])), (q0_7, .inl (ncI δ, 553, .inl (fun _ => 0))), (q0_19, .inl (ncI δ, 3318, .inl (fun _ => 0)))]) rfl ?_
  refine n_putF (ref := RX0) 1 7 wGX0 tyX0 tyX0_ok nmX0 rfl rfl (by decide) (gm1 92 rfl rfl) rfl rfl rfl rfl (tyX0_ok 7 (by decide)) rfl rfl (Nat.le_of_ble_eq_true rfl) dX0_init_21 ?_
  refine n_ws (ws' := [(m, .inr (6, [.null, .null, .null, .null, .null, .int 0])), (a, .inr (0, [.null, .null, .null, .null, .null, .null, .ref q0_7, .ref q0_19, .int 0, .int 0])), (q0_7, .inl (ncI δ, 553, .inl (fun _ => 0))), (q0_19, .inl (ncI δ, 3318, .inl (fun _ => 0)))]) rfl ?_
  refine n_aload_n dX0_init_24 rfl 1 rfl ?_
  refine n_new (kc := 5) (ks := 13) (C0 := RX5) (T := TX5) (n := 3) (ci := 5) wGX5 tyX5 tyX5_ok (gm1 30 rfl rfl) (gm1 31 rfl rfl) (gm1 3 rfl rfl) rfl (fs := [.null, .int 0, .int 0]) dfX5 dX0_init_25 (fun q0_25 => ?_)
  refine n_ws (ws' := [(m, .inr (6, [.null, .null, .null, .null, .null, .int 0])), (a, .inr (0, [.null, .null, .null, .null, .null, .null, .ref q0_7, .ref q0_19, .int 0, .int 0])), (q0_7, .inl (ncI δ, 553, .inl (fun _ => 0))), (q0_19, .inl (ncI δ, 3318, .inl (fun _ => 0))), (q0_25, .inr (5, [.null, .int 0, .int 0]))]) rfl ?_
  refine n_dup dX0_init_28 rfl ?_
  refine n_aload_n dX0_init_29 rfl 0 rfl ?_
  refine n_iconst (v := 0) dX0_init_30 (by decide) ?_
  refine n_iconst (v := 4) dX0_init_31 (by decide) ?_
  refine n_callI (kc := 5) (ks := 13) (y := yX5_init) (maxL := 4) (b := q0_25) (As := [.ref q0_7, .int 0, .int 4]) (st := [.ref q0_25, .ref a]) (d' := 1) (kc' := 0) (ks' := 0) (c_X5_init 4 rfl) nvX5_20 rfl rfl (Nat.le_of_ble_eq_true rfl) rfl (Nat.le_of_ble_eq_true rfl) (by decide) dX0_init_32 (fun w32 e32 => ?_)
  subst e32
  refine n_ws (ws' := [(m, .inr (6, [.null, .null, .null, .null, .null, .int 0])), (a, .inr (0, [.null, .null, .null, .null, .null, .null, .ref q0_7, .ref q0_19, .int 0, .int 0])), (q0_7, .inl (ncI δ, 553, .inl (fun _ => 0))), (q0_19, .inl (ncI δ, 3318, .inl (fun _ => 0))), (q0_25, .inr (5, [.ref q0_7, .int 0, .int 4]))]) rfl ?_
  refine n_putF (ref := RX0) 1 0 wGX0 tyX0 tyX0_ok nmX0 rfl rfl (by decide) (gm1 72 rfl rfl) rfl rfl rfl rfl (tyX0_ok 0 (by decide)) rfl rfl (Nat.le_of_ble_eq_true rfl) dX0_init_35 ?_
  refine n_ws (ws' := [(m, .inr (6, [.null, .null, .null, .null, .null, .int 0])), (a, .inr (0, [.ref q0_25, .null, .null, .null, .null, .null, .ref q0_7, .ref q0_19, .int 0, .int 0])), (q0_7, .inl (ncI δ, 553, .inl (fun _ => 0))), (q0_19, .inl (ncI δ, 3318, .inl (fun _ => 0))), (q0_25, .inr (5, [.ref q0_7, .int 0, .int 4]))]) rfl ?_
  refine n_aload_n dX0_init_38 rfl 1 rfl ?_
  refine n_new (kc := 4) (ks := 10) (C0 := RX5) (T := TX5) (n := 3) (ci := 5) wGX5 tyX5 tyX5_ok (gm1 30 rfl rfl) (gm1 31 rfl rfl) (gm1 3 rfl rfl) rfl (fs := [.null, .int 0, .int 0]) dfX5 dX0_init_39 (fun q0_39 => ?_)
  refine n_ws (ws' := [(m, .inr (6, [.null, .null, .null, .null, .null, .int 0])), (a, .inr (0, [.ref q0_25, .null, .null, .null, .null, .null, .ref q0_7, .ref q0_19, .int 0, .int 0])), (q0_7, .inl (ncI δ, 553, .inl (fun _ => 0))), (q0_19, .inl (ncI δ, 3318, .inl (fun _ => 0))), (q0_25, .inr (5, [.ref q0_7, .int 0, .int 4])), (q0_39, .inr (5, [.null, .int 0, .int 0]))]) rfl ?_
  refine n_dup dX0_init_42 rfl ?_
  refine n_aload_n dX0_init_43 rfl 0 rfl ?_
  refine n_bipush (v := 32) dX0_init_44 (by decide) ?_
  refine n_bipush (v := 11) dX0_init_46 (by decide) ?_
  refine n_callI (kc := 4) (ks := 10) (y := yX5_init) (maxL := 4) (b := q0_39) (As := [.ref q0_7, .int 32, .int 11]) (st := [.ref q0_39, .ref a]) (d' := 1) (kc' := 0) (ks' := 0) (c_X5_init 5 rfl) nvX5_20 rfl rfl (Nat.le_of_ble_eq_true rfl) rfl (Nat.le_of_ble_eq_true rfl) (by decide) dX0_init_48 (fun w48 e48 => ?_)
  subst e48
  refine n_ws (ws' := [(m, .inr (6, [.null, .null, .null, .null, .null, .int 0])), (a, .inr (0, [.ref q0_25, .null, .null, .null, .null, .null, .ref q0_7, .ref q0_19, .int 0, .int 0])), (q0_7, .inl (ncI δ, 553, .inl (fun _ => 0))), (q0_19, .inl (ncI δ, 3318, .inl (fun _ => 0))), (q0_25, .inr (5, [.ref q0_7, .int 0, .int 4])), (q0_39, .inr (5, [.ref q0_7, .int 32, .int 11]))]) rfl ?_
  refine n_putF (ref := RX0) 1 1 wGX0 tyX0 tyX0_ok nmX0 rfl rfl (by decide) (gm1 74 rfl rfl) rfl rfl rfl rfl (tyX0_ok 1 (by decide)) rfl rfl (Nat.le_of_ble_eq_true rfl) dX0_init_51 ?_
  refine n_ws (ws' := [(m, .inr (6, [.null, .null, .null, .null, .null, .int 0])), (a, .inr (0, [.ref q0_25, .ref q0_39, .null, .null, .null, .null, .ref q0_7, .ref q0_19, .int 0, .int 0])), (q0_7, .inl (ncI δ, 553, .inl (fun _ => 0))), (q0_19, .inl (ncI δ, 3318, .inl (fun _ => 0))), (q0_25, .inr (5, [.ref q0_7, .int 0, .int 4])), (q0_39, .inr (5, [.ref q0_7, .int 32, .int 11]))]) rfl ?_
  refine n_aload_n dX0_init_54 rfl 1 rfl ?_
  refine n_new (kc := 3) (ks := 7) (C0 := RX5) (T := TX5) (n := 3) (ci := 5) wGX5 tyX5 tyX5_ok (gm1 30 rfl rfl) (gm1 31 rfl rfl) (gm1 3 rfl rfl) rfl (fs := [.null, .int 0, .int 0]) dfX5 dX0_init_55 (fun q0_55 => ?_)
  refine n_ws (ws' := [(m, .inr (6, [.null, .null, .null, .null, .null, .int 0])), (a, .inr (0, [.ref q0_25, .ref q0_39, .null, .null, .null, .null, .ref q0_7, .ref q0_19, .int 0, .int 0])), (q0_7, .inl (ncI δ, 553, .inl (fun _ => 0))), (q0_19, .inl (ncI δ, 3318, .inl (fun _ => 0))), (q0_25, .inr (5, [.ref q0_7, .int 0, .int 4])), (q0_39, .inr (5, [.ref q0_7, .int 32, .int 11])), (q0_55, .inr (5, [.null, .int 0, .int 0]))]) rfl ?_
  refine n_dup dX0_init_58 rfl ?_
  refine n_aload_n dX0_init_59 rfl 0 rfl ?_
  refine n_sipush (v := 472) dX0_init_60 (by decide) ?_
  refine n_bipush (v := 7) dX0_init_63 (by decide) ?_
  refine n_callI (kc := 3) (ks := 7) (y := yX5_init) (maxL := 4) (b := q0_55) (As := [.ref q0_7, .int 472, .int 7]) (st := [.ref q0_55, .ref a]) (d' := 1) (kc' := 0) (ks' := 0) (c_X5_init 6 rfl) nvX5_20 rfl rfl (Nat.le_of_ble_eq_true rfl) rfl (Nat.le_of_ble_eq_true rfl) (by decide) dX0_init_65 (fun w65 e65 => ?_)
  subst e65
  refine n_ws (ws' := [(m, .inr (6, [.null, .null, .null, .null, .null, .int 0])), (a, .inr (0, [.ref q0_25, .ref q0_39, .null, .null, .null, .null, .ref q0_7, .ref q0_19, .int 0, .int 0])), (q0_7, .inl (ncI δ, 553, .inl (fun _ => 0))), (q0_19, .inl (ncI δ, 3318, .inl (fun _ => 0))), (q0_25, .inr (5, [.ref q0_7, .int 0, .int 4])), (q0_39, .inr (5, [.ref q0_7, .int 32, .int 11])), (q0_55, .inr (5, [.ref q0_7, .int 472, .int 7]))]) rfl ?_
  refine n_putF (ref := RX0) 1 2 wGX0 tyX0 tyX0_ok nmX0 rfl rfl (by decide) (gm1 77 rfl rfl) rfl rfl rfl rfl (tyX0_ok 2 (by decide)) rfl rfl (Nat.le_of_ble_eq_true rfl) dX0_init_68 ?_
  refine n_ws (ws' := [(m, .inr (6, [.null, .null, .null, .null, .null, .int 0])), (a, .inr (0, [.ref q0_25, .ref q0_39, .ref q0_55, .null, .null, .null, .ref q0_7, .ref q0_19, .int 0, .int 0])), (q0_7, .inl (ncI δ, 553, .inl (fun _ => 0))), (q0_19, .inl (ncI δ, 3318, .inl (fun _ => 0))), (q0_25, .inr (5, [.ref q0_7, .int 0, .int 4])), (q0_39, .inr (5, [.ref q0_7, .int 32, .int 11])), (q0_55, .inr (5, [.ref q0_7, .int 472, .int 7]))]) rfl ?_
  refine n_aload_n dX0_init_71 rfl 1 rfl ?_
  refine n_new (kc := 2) (ks := 4) (C0 := RX5) (T := TX5) (n := 3) (ci := 5) wGX5 tyX5 tyX5_ok (gm1 30 rfl rfl) (gm1 31 rfl rfl) (gm1 3 rfl rfl) rfl (fs := [.null, .int 0, .int 0]) dfX5 dX0_init_72 (fun q0_72 => ?_)
  refine n_ws (ws' := [(m, .inr (6, [.null, .null, .null, .null, .null, .int 0])), (a, .inr (0, [.ref q0_25, .ref q0_39, .ref q0_55, .null, .null, .null, .ref q0_7, .ref q0_19, .int 0, .int 0])), (q0_7, .inl (ncI δ, 553, .inl (fun _ => 0))), (q0_19, .inl (ncI δ, 3318, .inl (fun _ => 0))), (q0_25, .inr (5, [.ref q0_7, .int 0, .int 4])), (q0_39, .inr (5, [.ref q0_7, .int 32, .int 11])), (q0_55, .inr (5, [.ref q0_7, .int 472, .int 7])), (q0_72, .inr (5, [.null, .int 0, .int 0]))]) rfl ?_
  refine n_dup dX0_init_75 rfl ?_
  refine n_aload_n dX0_init_76 rfl 0 rfl ?_
  refine n_sipush (v := 514) dX0_init_77 (by decide) ?_
  refine n_iconst (v := 5) dX0_init_80 (by decide) ?_
  refine n_callI (kc := 2) (ks := 4) (y := yX5_init) (maxL := 4) (b := q0_72) (As := [.ref q0_7, .int 514, .int 5]) (st := [.ref q0_72, .ref a]) (d' := 1) (kc' := 0) (ks' := 0) (c_X5_init 7 rfl) nvX5_20 rfl rfl (Nat.le_of_ble_eq_true rfl) rfl (Nat.le_of_ble_eq_true rfl) (by decide) dX0_init_81 (fun w81 e81 => ?_)
  subst e81
  refine n_ws (ws' := [(m, .inr (6, [.null, .null, .null, .null, .null, .int 0])), (a, .inr (0, [.ref q0_25, .ref q0_39, .ref q0_55, .null, .null, .null, .ref q0_7, .ref q0_19, .int 0, .int 0])), (q0_7, .inl (ncI δ, 553, .inl (fun _ => 0))), (q0_19, .inl (ncI δ, 3318, .inl (fun _ => 0))), (q0_25, .inr (5, [.ref q0_7, .int 0, .int 4])), (q0_39, .inr (5, [.ref q0_7, .int 32, .int 11])), (q0_55, .inr (5, [.ref q0_7, .int 472, .int 7])), (q0_72, .inr (5, [.ref q0_7, .int 514, .int 5]))]) rfl ?_
  refine n_putF (ref := RX0) 1 3 wGX0 tyX0 tyX0_ok nmX0 rfl rfl (by decide) (gm1 80 rfl rfl) rfl rfl rfl rfl (tyX0_ok 3 (by decide)) rfl rfl (Nat.le_of_ble_eq_true rfl) dX0_init_84 ?_
  refine n_ws (ws' := [(m, .inr (6, [.null, .null, .null, .null, .null, .int 0])), (a, .inr (0, [.ref q0_25, .ref q0_39, .ref q0_55, .ref q0_72, .null, .null, .ref q0_7, .ref q0_19, .int 0, .int 0])), (q0_7, .inl (ncI δ, 553, .inl (fun _ => 0))), (q0_19, .inl (ncI δ, 3318, .inl (fun _ => 0))), (q0_25, .inr (5, [.ref q0_7, .int 0, .int 4])), (q0_39, .inr (5, [.ref q0_7, .int 32, .int 11])), (q0_55, .inr (5, [.ref q0_7, .int 472, .int 7])), (q0_72, .inr (5, [.ref q0_7, .int 514, .int 5]))]) rfl ?_
  refine n_aload_n dX0_init_87 rfl 1 rfl ?_
  refine n_new (kc := 1) (ks := 2) (C0 := RX3) (T := TX3) (n := 2) (ci := 3) wGX3 tyX3 tyX3_ok (gm1 47 rfl rfl) (gm1 48 rfl rfl) (gm1 4 rfl rfl) rfl (fs := [.null, .int 0]) dfX3 dX0_init_88 (fun q0_88 => ?_)
  refine n_ws (ws' := [(m, .inr (6, [.null, .null, .null, .null, .null, .int 0])), (a, .inr (0, [.ref q0_25, .ref q0_39, .ref q0_55, .ref q0_72, .null, .null, .ref q0_7, .ref q0_19, .int 0, .int 0])), (q0_7, .inl (ncI δ, 553, .inl (fun _ => 0))), (q0_19, .inl (ncI δ, 3318, .inl (fun _ => 0))), (q0_25, .inr (5, [.ref q0_7, .int 0, .int 4])), (q0_39, .inr (5, [.ref q0_7, .int 32, .int 11])), (q0_55, .inr (5, [.ref q0_7, .int 472, .int 7])), (q0_72, .inr (5, [.ref q0_7, .int 514, .int 5])), (q0_88, .inr (3, [.null, .int 0]))]) rfl ?_
  refine n_dup dX0_init_91 rfl ?_
  refine n_aload_n dX0_init_92 rfl 0 rfl ?_
  refine n_sipush (v := 539) dX0_init_93 (by decide) ?_
  refine n_callI (kc := 1) (ks := 2) (y := yX3_init) (maxL := 3) (b := q0_88) (As := [.ref q0_7, .int 539]) (st := [.ref q0_88, .ref a]) (d' := 1) (kc' := 0) (ks' := 0) (c_X3_init 8 rfl) nvX3_38 rfl rfl (Nat.le_of_ble_eq_true rfl) rfl (Nat.le_of_ble_eq_true rfl) (by decide) dX0_init_96 (fun w96 e96 => ?_)
  subst e96
  refine n_ws (ws' := [(m, .inr (6, [.null, .null, .null, .null, .null, .int 0])), (a, .inr (0, [.ref q0_25, .ref q0_39, .ref q0_55, .ref q0_72, .null, .null, .ref q0_7, .ref q0_19, .int 0, .int 0])), (q0_7, .inl (ncI δ, 553, .inl (fun _ => 0))), (q0_19, .inl (ncI δ, 3318, .inl (fun _ => 0))), (q0_25, .inr (5, [.ref q0_7, .int 0, .int 4])), (q0_39, .inr (5, [.ref q0_7, .int 32, .int 11])), (q0_55, .inr (5, [.ref q0_7, .int 472, .int 7])), (q0_72, .inr (5, [.ref q0_7, .int 514, .int 5])), (q0_88, .inr (3, [.ref q0_7, .int 539]))]) rfl ?_
  refine n_putF (ref := RX0) 1 4 wGX0 tyX0 tyX0_ok nmX0 rfl rfl (by decide) (gm1 84 rfl rfl) rfl rfl rfl rfl (tyX0_ok 4 (by decide)) rfl rfl (Nat.le_of_ble_eq_true rfl) dX0_init_99 ?_
  refine n_ws (ws' := [(m, .inr (6, [.null, .null, .null, .null, .null, .int 0])), (a, .inr (0, [.ref q0_25, .ref q0_39, .ref q0_55, .ref q0_72, .ref q0_88, .null, .ref q0_7, .ref q0_19, .int 0, .int 0])), (q0_7, .inl (ncI δ, 553, .inl (fun _ => 0))), (q0_19, .inl (ncI δ, 3318, .inl (fun _ => 0))), (q0_25, .inr (5, [.ref q0_7, .int 0, .int 4])), (q0_39, .inr (5, [.ref q0_7, .int 32, .int 11])), (q0_55, .inr (5, [.ref q0_7, .int 472, .int 7])), (q0_72, .inr (5, [.ref q0_7, .int 514, .int 5])), (q0_88, .inr (3, [.ref q0_7, .int 539]))]) rfl ?_
  refine n_aload_n dX0_init_102 rfl 1 rfl ?_
  refine n_new (kc := 0) (ks := 0) (C0 := RX3) (T := TX3) (n := 2) (ci := 3) wGX3 tyX3 tyX3_ok (gm1 47 rfl rfl) (gm1 48 rfl rfl) (gm1 4 rfl rfl) rfl (fs := [.null, .int 0]) dfX3 dX0_init_103 (fun q0_103 => ?_)
  refine n_ws (ws' := [(m, .inr (6, [.null, .null, .null, .null, .null, .int 0])), (a, .inr (0, [.ref q0_25, .ref q0_39, .ref q0_55, .ref q0_72, .ref q0_88, .null, .ref q0_7, .ref q0_19, .int 0, .int 0])), (q0_7, .inl (ncI δ, 553, .inl (fun _ => 0))), (q0_19, .inl (ncI δ, 3318, .inl (fun _ => 0))), (q0_25, .inr (5, [.ref q0_7, .int 0, .int 4])), (q0_39, .inr (5, [.ref q0_7, .int 32, .int 11])), (q0_55, .inr (5, [.ref q0_7, .int 472, .int 7])), (q0_72, .inr (5, [.ref q0_7, .int 514, .int 5])), (q0_88, .inr (3, [.ref q0_7, .int 539])), (q0_103, .inr (3, [.null, .int 0]))]) rfl ?_
  refine n_dup dX0_init_106 rfl ?_
  refine n_aload_n dX0_init_107 rfl 0 rfl ?_
  refine n_sipush (v := 546) dX0_init_108 (by decide) ?_
  refine n_callI (kc := 0) (ks := 0) (y := yX3_init) (maxL := 3) (b := q0_103) (As := [.ref q0_7, .int 546]) (st := [.ref q0_103, .ref a]) (d' := 1) (kc' := 0) (ks' := 0) (c_X3_init 9 rfl) nvX3_38 rfl rfl (Nat.le_of_ble_eq_true rfl) rfl (Nat.le_of_ble_eq_true rfl) (by decide) dX0_init_111 (fun w111 e111 => ?_)
  subst e111
  refine n_ws (ws' := [(m, .inr (6, [.null, .null, .null, .null, .null, .int 0])), (a, .inr (0, [.ref q0_25, .ref q0_39, .ref q0_55, .ref q0_72, .ref q0_88, .null, .ref q0_7, .ref q0_19, .int 0, .int 0])), (q0_7, .inl (ncI δ, 553, .inl (fun _ => 0))), (q0_19, .inl (ncI δ, 3318, .inl (fun _ => 0))), (q0_25, .inr (5, [.ref q0_7, .int 0, .int 4])), (q0_39, .inr (5, [.ref q0_7, .int 32, .int 11])), (q0_55, .inr (5, [.ref q0_7, .int 472, .int 7])), (q0_72, .inr (5, [.ref q0_7, .int 514, .int 5])), (q0_88, .inr (3, [.ref q0_7, .int 539])), (q0_103, .inr (3, [.ref q0_7, .int 546]))]) rfl ?_
  refine n_putF (ref := RX0) 1 5 wGX0 tyX0 tyX0_ok nmX0 rfl rfl (by decide) (gm1 88 rfl rfl) rfl rfl rfl rfl (tyX0_ok 5 (by decide)) rfl rfl (Nat.le_of_ble_eq_true rfl) dX0_init_114 ?_
  refine n_ws (ws' := [(m, .inr (6, [.null, .null, .null, .null, .null, .int 0])), (a, .inr (0, [.ref q0_25, .ref q0_39, .ref q0_55, .ref q0_72, .ref q0_88, .ref q0_103, .ref q0_7, .ref q0_19, .int 0, .int 0])), (q0_7, .inl (ncI δ, 553, .inl (fun _ => 0))), (q0_19, .inl (ncI δ, 3318, .inl (fun _ => 0))), (q0_25, .inr (5, [.ref q0_7, .int 0, .int 4])), (q0_39, .inr (5, [.ref q0_7, .int 32, .int 11])), (q0_55, .inr (5, [.ref q0_7, .int 472, .int 7])), (q0_72, .inr (5, [.ref q0_7, .int 514, .int 5])), (q0_88, .inr (3, [.ref q0_7, .int 539])), (q0_103, .inr (3, [.ref q0_7, .int 546]))]) rfl ?_
  refine n_iconst (v := 0) dX0_init_117 (by decide) ?_
  refine n_istore_n (lv' := [(2, .int 0), (1, .ref q0_7), (0, .ref a)]) dX0_init_118 rfl (by decide) rfl ?_
  refine n_iload_n dX0_init_119 rfl 0 rfl ?_
  refine n_getsS (List.mem_of_getElem? (i := 0) rfl) dX0_init_120 ?_
  refine n_tlenS dX0_init_123 ?_
  refine n_icmp_ge (tgt := 146) dX0_init_124 (by decide) (fun h => absurd h (by decide)) (fun _ => ?_)
  refine n_aload_n dX0_init_127 rfl 2 rfl ?_
  refine n_getf (ref := RX0) 1 4 wGX0 rfl rfl (by decide) (gm1 84 rfl rfl) rfl rfl dX0_init_128 ?_
  refine n_iload_n dX0_init_131 rfl 0 rfl ?_
  refine n_getsS (List.mem_of_getElem? (i := 0) rfl) dX0_init_132 ?_
  refine n_iload_n dX0_init_135 rfl 0 rfl ?_
  refine n_tiS (x := 10) (by unfold vp_in; decide) rfl dX0_init_136 ?_
  refine n_callV (kc := 0) (ks := 0) (y := yX3_put) (maxL := 4) (b := q0_88) (As := [.int 0, .int 10]) (st := []) (d' := 0) (kc' := 0) (ks' := 0) 8 (c_X3_put 8 2 rfl rfl (by decide) (by decide) (by decide)) gvX3_51 rfl rfl rfl (Nat.le_of_ble_eq_true rfl) rfl (Nat.le_of_ble_eq_true rfl) (by decide) dX0_init_137 (fun w0 e0 => ?_)
  subst e0
  refine n_ws (ws' := [(m, .inr (6, [.null, .null, .null, .null, .null, .int 0])), (a, .inr (0, [.ref q0_25, .ref q0_39, .ref q0_55, .ref q0_72, .ref q0_88, .ref q0_103, .ref q0_7, .ref q0_19, .int 0, .int 0])), (q0_7, .inl (ncI δ, 553, .inl (upd (fun _ => 0) 539 10))), (q0_19, .inl (ncI δ, 3318, .inl (fun _ => 0))), (q0_25, .inr (5, [.ref q0_7, .int 0, .int 4])), (q0_39, .inr (5, [.ref q0_7, .int 32, .int 11])), (q0_55, .inr (5, [.ref q0_7, .int 472, .int 7])), (q0_72, .inr (5, [.ref q0_7, .int 514, .int 5])), (q0_88, .inr (3, [.ref q0_7, .int 539])), (q0_103, .inr (3, [.ref q0_7, .int 546]))]) rfl ?_
  refine n_iinc (q := 0) (v := 1) (lv' := [(2, .int 1), (1, .ref q0_7), (0, .ref a)]) dX0_init_140 rfl (by decide) (by decide) rfl ?_
  refine n_goto (tgt := 119) dX0_init_143 (by decide) ?_
  refine n_iload_n dX0_init_119 rfl 0 rfl ?_
  refine n_getsS (List.mem_of_getElem? (i := 0) rfl) dX0_init_120 ?_
  refine n_tlenS dX0_init_123 ?_
  refine n_icmp_ge (tgt := 146) dX0_init_124 (by decide) (fun h => absurd h (by decide)) (fun _ => ?_)
  refine n_aload_n dX0_init_127 rfl 2 rfl ?_
  refine n_getf (ref := RX0) 1 4 wGX0 rfl rfl (by decide) (gm1 84 rfl rfl) rfl rfl dX0_init_128 ?_
  refine n_iload_n dX0_init_131 rfl 0 rfl ?_
  refine n_getsS (List.mem_of_getElem? (i := 0) rfl) dX0_init_132 ?_
  refine n_iload_n dX0_init_135 rfl 0 rfl ?_
  refine n_tiS (x := 850) (by unfold vp_in; decide) rfl dX0_init_136 ?_
  refine n_callV (kc := 0) (ks := 0) (y := yX3_put) (maxL := 4) (b := q0_88) (As := [.int 1, .int 850]) (st := []) (d' := 0) (kc' := 0) (ks' := 0) 8 (c_X3_put 8 2 rfl rfl (by decide) (by decide) (by decide)) gvX3_51 rfl rfl rfl (Nat.le_of_ble_eq_true rfl) rfl (Nat.le_of_ble_eq_true rfl) (by decide) dX0_init_137 (fun w1 e1 => ?_)
  subst e1
  refine n_ws (ws' := [(m, .inr (6, [.null, .null, .null, .null, .null, .int 0])), (a, .inr (0, [.ref q0_25, .ref q0_39, .ref q0_55, .ref q0_72, .ref q0_88, .ref q0_103, .ref q0_7, .ref q0_19, .int 0, .int 0])), (q0_7, .inl (ncI δ, 553, .inl (upd (upd (fun _ => 0) 539 10) 540 850))), (q0_19, .inl (ncI δ, 3318, .inl (fun _ => 0))), (q0_25, .inr (5, [.ref q0_7, .int 0, .int 4])), (q0_39, .inr (5, [.ref q0_7, .int 32, .int 11])), (q0_55, .inr (5, [.ref q0_7, .int 472, .int 7])), (q0_72, .inr (5, [.ref q0_7, .int 514, .int 5])), (q0_88, .inr (3, [.ref q0_7, .int 539])), (q0_103, .inr (3, [.ref q0_7, .int 546]))]) rfl ?_
  refine n_iinc (q := 0) (v := 2) (lv' := [(2, .int 2), (1, .ref q0_7), (0, .ref a)]) dX0_init_140 rfl (by decide) (by decide) rfl ?_
  refine n_goto (tgt := 119) dX0_init_143 (by decide) ?_
  refine n_iload_n dX0_init_119 rfl 0 rfl ?_
  refine n_getsS (List.mem_of_getElem? (i := 0) rfl) dX0_init_120 ?_
  refine n_tlenS dX0_init_123 ?_
  refine n_icmp_ge (tgt := 146) dX0_init_124 (by decide) (fun h => absurd h (by decide)) (fun _ => ?_)
  refine n_aload_n dX0_init_127 rfl 2 rfl ?_
  refine n_getf (ref := RX0) 1 4 wGX0 rfl rfl (by decide) (gm1 84 rfl rfl) rfl rfl dX0_init_128 ?_
  refine n_iload_n dX0_init_131 rfl 0 rfl ?_
  refine n_getsS (List.mem_of_getElem? (i := 0) rfl) dX0_init_132 ?_
  refine n_iload_n dX0_init_135 rfl 0 rfl ?_
  refine n_tiS (x := 600) (by unfold vp_in; decide) rfl dX0_init_136 ?_
  refine n_callV (kc := 0) (ks := 0) (y := yX3_put) (maxL := 4) (b := q0_88) (As := [.int 2, .int 600]) (st := []) (d' := 0) (kc' := 0) (ks' := 0) 8 (c_X3_put 8 2 rfl rfl (by decide) (by decide) (by decide)) gvX3_51 rfl rfl rfl (Nat.le_of_ble_eq_true rfl) rfl (Nat.le_of_ble_eq_true rfl) (by decide) dX0_init_137 (fun w2 e2 => ?_)
  subst e2
  refine n_ws (ws' := [(m, .inr (6, [.null, .null, .null, .null, .null, .int 0])), (a, .inr (0, [.ref q0_25, .ref q0_39, .ref q0_55, .ref q0_72, .ref q0_88, .ref q0_103, .ref q0_7, .ref q0_19, .int 0, .int 0])), (q0_7, .inl (ncI δ, 553, .inl (upd (upd (upd (fun _ => 0) 539 10) 540 850) 541 600))), (q0_19, .inl (ncI δ, 3318, .inl (fun _ => 0))), (q0_25, .inr (5, [.ref q0_7, .int 0, .int 4])), (q0_39, .inr (5, [.ref q0_7, .int 32, .int 11])), (q0_55, .inr (5, [.ref q0_7, .int 472, .int 7])), (q0_72, .inr (5, [.ref q0_7, .int 514, .int 5])), (q0_88, .inr (3, [.ref q0_7, .int 539])), (q0_103, .inr (3, [.ref q0_7, .int 546]))]) rfl ?_
  refine n_iinc (q := 0) (v := 3) (lv' := [(2, .int 3), (1, .ref q0_7), (0, .ref a)]) dX0_init_140 rfl (by decide) (by decide) rfl ?_
  refine n_goto (tgt := 119) dX0_init_143 (by decide) ?_
  refine n_iload_n dX0_init_119 rfl 0 rfl ?_
  refine n_getsS (List.mem_of_getElem? (i := 0) rfl) dX0_init_120 ?_
  refine n_tlenS dX0_init_123 ?_
  refine n_icmp_ge (tgt := 146) dX0_init_124 (by decide) (fun h => absurd h (by decide)) (fun _ => ?_)
  refine n_aload_n dX0_init_127 rfl 2 rfl ?_
  refine n_getf (ref := RX0) 1 4 wGX0 rfl rfl (by decide) (gm1 84 rfl rfl) rfl rfl dX0_init_128 ?_
  refine n_iload_n dX0_init_131 rfl 0 rfl ?_
  refine n_getsS (List.mem_of_getElem? (i := 0) rfl) dX0_init_132 ?_
  refine n_iload_n dX0_init_135 rfl 0 rfl ?_
  refine n_tiS (x := 2) (by unfold vp_in; decide) rfl dX0_init_136 ?_
  refine n_callV (kc := 0) (ks := 0) (y := yX3_put) (maxL := 4) (b := q0_88) (As := [.int 3, .int 2]) (st := []) (d' := 0) (kc' := 0) (ks' := 0) 8 (c_X3_put 8 2 rfl rfl (by decide) (by decide) (by decide)) gvX3_51 rfl rfl rfl (Nat.le_of_ble_eq_true rfl) rfl (Nat.le_of_ble_eq_true rfl) (by decide) dX0_init_137 (fun w3 e3 => ?_)
  subst e3
  refine n_ws (ws' := [(m, .inr (6, [.null, .null, .null, .null, .null, .int 0])), (a, .inr (0, [.ref q0_25, .ref q0_39, .ref q0_55, .ref q0_72, .ref q0_88, .ref q0_103, .ref q0_7, .ref q0_19, .int 0, .int 0])), (q0_7, .inl (ncI δ, 553, .inl (upd (upd (upd (upd (fun _ => 0) 539 10) 540 850) 541 600) 542 2))), (q0_19, .inl (ncI δ, 3318, .inl (fun _ => 0))), (q0_25, .inr (5, [.ref q0_7, .int 0, .int 4])), (q0_39, .inr (5, [.ref q0_7, .int 32, .int 11])), (q0_55, .inr (5, [.ref q0_7, .int 472, .int 7])), (q0_72, .inr (5, [.ref q0_7, .int 514, .int 5])), (q0_88, .inr (3, [.ref q0_7, .int 539])), (q0_103, .inr (3, [.ref q0_7, .int 546]))]) rfl ?_
  refine n_iinc (q := 0) (v := 4) (lv' := [(2, .int 4), (1, .ref q0_7), (0, .ref a)]) dX0_init_140 rfl (by decide) (by decide) rfl ?_
  refine n_goto (tgt := 119) dX0_init_143 (by decide) ?_
  refine n_iload_n dX0_init_119 rfl 0 rfl ?_
  refine n_getsS (List.mem_of_getElem? (i := 0) rfl) dX0_init_120 ?_
  refine n_tlenS dX0_init_123 ?_
  refine n_icmp_ge (tgt := 146) dX0_init_124 (by decide) (fun h => absurd h (by decide)) (fun _ => ?_)
  refine n_aload_n dX0_init_127 rfl 2 rfl ?_
  refine n_getf (ref := RX0) 1 4 wGX0 rfl rfl (by decide) (gm1 84 rfl rfl) rfl rfl dX0_init_128 ?_
  refine n_iload_n dX0_init_131 rfl 0 rfl ?_
  refine n_getsS (List.mem_of_getElem? (i := 0) rfl) dX0_init_132 ?_
  refine n_iload_n dX0_init_135 rfl 0 rfl ?_
  refine n_tiS (x := 20) (by unfold vp_in; decide) rfl dX0_init_136 ?_
  refine n_callV (kc := 0) (ks := 0) (y := yX3_put) (maxL := 4) (b := q0_88) (As := [.int 4, .int 20]) (st := []) (d' := 0) (kc' := 0) (ks' := 0) 8 (c_X3_put 8 2 rfl rfl (by decide) (by decide) (by decide)) gvX3_51 rfl rfl rfl (Nat.le_of_ble_eq_true rfl) rfl (Nat.le_of_ble_eq_true rfl) (by decide) dX0_init_137 (fun w4 e4 => ?_)
  subst e4
  refine n_ws (ws' := [(m, .inr (6, [.null, .null, .null, .null, .null, .int 0])), (a, .inr (0, [.ref q0_25, .ref q0_39, .ref q0_55, .ref q0_72, .ref q0_88, .ref q0_103, .ref q0_7, .ref q0_19, .int 0, .int 0])), (q0_7, .inl (ncI δ, 553, .inl (upd (upd (upd (upd (upd (fun _ => 0) 539 10) 540 850) 541 600) 542 2) 543 20))), (q0_19, .inl (ncI δ, 3318, .inl (fun _ => 0))), (q0_25, .inr (5, [.ref q0_7, .int 0, .int 4])), (q0_39, .inr (5, [.ref q0_7, .int 32, .int 11])), (q0_55, .inr (5, [.ref q0_7, .int 472, .int 7])), (q0_72, .inr (5, [.ref q0_7, .int 514, .int 5])), (q0_88, .inr (3, [.ref q0_7, .int 539])), (q0_103, .inr (3, [.ref q0_7, .int 546]))]) rfl ?_
  refine n_iinc (q := 0) (v := 5) (lv' := [(2, .int 5), (1, .ref q0_7), (0, .ref a)]) dX0_init_140 rfl (by decide) (by decide) rfl ?_
  refine n_goto (tgt := 119) dX0_init_143 (by decide) ?_
  refine n_iload_n dX0_init_119 rfl 0 rfl ?_
  refine n_getsS (List.mem_of_getElem? (i := 0) rfl) dX0_init_120 ?_
  refine n_tlenS dX0_init_123 ?_
  refine n_icmp_ge (tgt := 146) dX0_init_124 (by decide) (fun h => absurd h (by decide)) (fun _ => ?_)
  refine n_aload_n dX0_init_127 rfl 2 rfl ?_
  refine n_getf (ref := RX0) 1 4 wGX0 rfl rfl (by decide) (gm1 84 rfl rfl) rfl rfl dX0_init_128 ?_
  refine n_iload_n dX0_init_131 rfl 0 rfl ?_
  refine n_getsS (List.mem_of_getElem? (i := 0) rfl) dX0_init_132 ?_
  refine n_iload_n dX0_init_135 rfl 0 rfl ?_
  refine n_tiS (x := 0) (by unfold vp_in; decide) rfl dX0_init_136 ?_
  refine n_callV (kc := 0) (ks := 0) (y := yX3_put) (maxL := 4) (b := q0_88) (As := [.int 5, .int 0]) (st := []) (d' := 0) (kc' := 0) (ks' := 0) 8 (c_X3_put 8 2 rfl rfl (by decide) (by decide) (by decide)) gvX3_51 rfl rfl rfl (Nat.le_of_ble_eq_true rfl) rfl (Nat.le_of_ble_eq_true rfl) (by decide) dX0_init_137 (fun w5 e5 => ?_)
  subst e5
  refine n_ws (ws' := [(m, .inr (6, [.null, .null, .null, .null, .null, .int 0])), (a, .inr (0, [.ref q0_25, .ref q0_39, .ref q0_55, .ref q0_72, .ref q0_88, .ref q0_103, .ref q0_7, .ref q0_19, .int 0, .int 0])), (q0_7, .inl (ncI δ, 553, .inl (upd (upd (upd (upd (upd (upd (fun _ => 0) 539 10) 540 850) 541 600) 542 2) 543 20) 544 0))), (q0_19, .inl (ncI δ, 3318, .inl (fun _ => 0))), (q0_25, .inr (5, [.ref q0_7, .int 0, .int 4])), (q0_39, .inr (5, [.ref q0_7, .int 32, .int 11])), (q0_55, .inr (5, [.ref q0_7, .int 472, .int 7])), (q0_72, .inr (5, [.ref q0_7, .int 514, .int 5])), (q0_88, .inr (3, [.ref q0_7, .int 539])), (q0_103, .inr (3, [.ref q0_7, .int 546]))]) rfl ?_
  refine n_iinc (q := 0) (v := 6) (lv' := [(2, .int 6), (1, .ref q0_7), (0, .ref a)]) dX0_init_140 rfl (by decide) (by decide) rfl ?_
  refine n_goto (tgt := 119) dX0_init_143 (by decide) ?_
  refine n_iload_n dX0_init_119 rfl 0 rfl ?_
  refine n_getsS (List.mem_of_getElem? (i := 0) rfl) dX0_init_120 ?_
  refine n_tlenS dX0_init_123 ?_
  refine n_icmp_ge (tgt := 146) dX0_init_124 (by decide) (fun h => absurd h (by decide)) (fun _ => ?_)
  refine n_aload_n dX0_init_127 rfl 2 rfl ?_
  refine n_getf (ref := RX0) 1 4 wGX0 rfl rfl (by decide) (gm1 84 rfl rfl) rfl rfl dX0_init_128 ?_
  refine n_iload_n dX0_init_131 rfl 0 rfl ?_
  refine n_getsS (List.mem_of_getElem? (i := 0) rfl) dX0_init_132 ?_
  refine n_iload_n dX0_init_135 rfl 0 rfl ?_
  refine n_tiS (x := 100) (by unfold vp_in; decide) rfl dX0_init_136 ?_
  refine n_callV (kc := 0) (ks := 0) (y := yX3_put) (maxL := 4) (b := q0_88) (As := [.int 6, .int 100]) (st := []) (d' := 0) (kc' := 0) (ks' := 0) 8 (c_X3_put 8 2 rfl rfl (by decide) (by decide) (by decide)) gvX3_51 rfl rfl rfl (Nat.le_of_ble_eq_true rfl) rfl (Nat.le_of_ble_eq_true rfl) (by decide) dX0_init_137 (fun w6 e6 => ?_)
  subst e6
  refine n_ws (ws' := [(m, .inr (6, [.null, .null, .null, .null, .null, .int 0])), (a, .inr (0, [.ref q0_25, .ref q0_39, .ref q0_55, .ref q0_72, .ref q0_88, .ref q0_103, .ref q0_7, .ref q0_19, .int 0, .int 0])), (q0_7, .inl (ncI δ, 553, .inl (upd (upd (upd (upd (upd (upd (upd (fun _ => 0) 539 10) 540 850) 541 600) 542 2) 543 20) 544 0) 545 100))), (q0_19, .inl (ncI δ, 3318, .inl (fun _ => 0))), (q0_25, .inr (5, [.ref q0_7, .int 0, .int 4])), (q0_39, .inr (5, [.ref q0_7, .int 32, .int 11])), (q0_55, .inr (5, [.ref q0_7, .int 472, .int 7])), (q0_72, .inr (5, [.ref q0_7, .int 514, .int 5])), (q0_88, .inr (3, [.ref q0_7, .int 539])), (q0_103, .inr (3, [.ref q0_7, .int 546]))]) rfl ?_
  refine n_iinc (q := 0) (v := 7) (lv' := [(2, .int 7), (1, .ref q0_7), (0, .ref a)]) dX0_init_140 rfl (by decide) (by decide) rfl ?_
  refine n_goto (tgt := 119) dX0_init_143 (by decide) ?_
  refine n_iload_n dX0_init_119 rfl 0 rfl ?_
  refine n_getsS (List.mem_of_getElem? (i := 0) rfl) dX0_init_120 ?_
  refine n_tlenS dX0_init_123 ?_
  refine n_icmp_ge (tgt := 146) dX0_init_124 (by decide) (fun _ => ?_) (fun h => absurd (by decide) h)
  refine n_iconst (v := 0) dX0_init_146 (by decide) ?_
  refine n_istore_n (lv' := [(2, .int 0), (1, .ref q0_7), (0, .ref a)]) dX0_init_147 rfl (by decide) rfl ?_
  refine n_iload_n dX0_init_148 rfl 0 rfl ?_
  refine n_getsY (List.mem_of_getElem? (i := 1) rfl) dX0_init_149 ?_
  refine n_tlenY dX0_init_152 ?_
  refine n_icmp_ge (tgt := 176) dX0_init_153 (by decide) (fun h => absurd h (by decide)) (fun _ => ?_)
  refine n_aload_n dX0_init_156 rfl 2 rfl ?_
  refine n_getf (ref := RX0) 1 3 wGX0 rfl rfl (by decide) (gm1 80 rfl rfl) rfl rfl dX0_init_157 ?_
  refine n_iload_n dX0_init_160 rfl 0 rfl ?_
  refine n_iconst (v := 0) dX0_init_161 (by decide) ?_
  refine n_getsY (List.mem_of_getElem? (i := 1) rfl) dX0_init_162 ?_
  refine n_iload_n dX0_init_165 rfl 0 rfl ?_
  refine n_tiY (x := 150) (by unfold vp_in; decide) rfl dX0_init_166 ?_
  refine n_callV (kc := 0) (ks := 0) (y := yX5_put) (maxL := 5) (b := q0_72) (As := [.int 0, .int 0, .int 150]) (st := []) (d' := 0) (kc' := 0) (ks' := 0) 7 (c_X5_put 7 2 rfl rfl (by decide) (by decide) (by decide)) gvX5_58 rfl rfl rfl (Nat.le_of_ble_eq_true rfl) rfl (Nat.le_of_ble_eq_true rfl) (by decide) dX0_init_167 (fun w7 e7 => ?_)
  subst e7
  refine n_ws (ws' := [(m, .inr (6, [.null, .null, .null, .null, .null, .int 0])), (a, .inr (0, [.ref q0_25, .ref q0_39, .ref q0_55, .ref q0_72, .ref q0_88, .ref q0_103, .ref q0_7, .ref q0_19, .int 0, .int 0])), (q0_7, .inl (ncI δ, 553, .inl (upd (upd (upd (upd (upd (upd (upd (upd (fun _ => 0) 539 10) 540 850) 541 600) 542 2) 543 20) 544 0) 545 100) 514 150))), (q0_19, .inl (ncI δ, 3318, .inl (fun _ => 0))), (q0_25, .inr (5, [.ref q0_7, .int 0, .int 4])), (q0_39, .inr (5, [.ref q0_7, .int 32, .int 11])), (q0_55, .inr (5, [.ref q0_7, .int 472, .int 7])), (q0_72, .inr (5, [.ref q0_7, .int 514, .int 5])), (q0_88, .inr (3, [.ref q0_7, .int 539])), (q0_103, .inr (3, [.ref q0_7, .int 546]))]) rfl ?_
  refine n_iinc (q := 0) (v := 1) (lv' := [(2, .int 1), (1, .ref q0_7), (0, .ref a)]) dX0_init_170 rfl (by decide) (by decide) rfl ?_
  refine n_goto (tgt := 148) dX0_init_173 (by decide) ?_
  refine n_iload_n dX0_init_148 rfl 0 rfl ?_
  refine n_getsY (List.mem_of_getElem? (i := 1) rfl) dX0_init_149 ?_
  refine n_tlenY dX0_init_152 ?_
  refine n_icmp_ge (tgt := 176) dX0_init_153 (by decide) (fun h => absurd h (by decide)) (fun _ => ?_)
  refine n_aload_n dX0_init_156 rfl 2 rfl ?_
  refine n_getf (ref := RX0) 1 3 wGX0 rfl rfl (by decide) (gm1 80 rfl rfl) rfl rfl dX0_init_157 ?_
  refine n_iload_n dX0_init_160 rfl 0 rfl ?_
  refine n_iconst (v := 0) dX0_init_161 (by decide) ?_
  refine n_getsY (List.mem_of_getElem? (i := 1) rfl) dX0_init_162 ?_
  refine n_iload_n dX0_init_165 rfl 0 rfl ?_
  refine n_tiY (x := 180) (by unfold vp_in; decide) rfl dX0_init_166 ?_
  refine n_callV (kc := 0) (ks := 0) (y := yX5_put) (maxL := 5) (b := q0_72) (As := [.int 1, .int 0, .int 180]) (st := []) (d' := 0) (kc' := 0) (ks' := 0) 7 (c_X5_put 7 2 rfl rfl (by decide) (by decide) (by decide)) gvX5_58 rfl rfl rfl (Nat.le_of_ble_eq_true rfl) rfl (Nat.le_of_ble_eq_true rfl) (by decide) dX0_init_167 (fun w8 e8 => ?_)
  subst e8
  refine n_ws (ws' := [(m, .inr (6, [.null, .null, .null, .null, .null, .int 0])), (a, .inr (0, [.ref q0_25, .ref q0_39, .ref q0_55, .ref q0_72, .ref q0_88, .ref q0_103, .ref q0_7, .ref q0_19, .int 0, .int 0])), (q0_7, .inl (ncI δ, 553, .inl (upd (upd (upd (upd (upd (upd (upd (upd (upd (fun _ => 0) 539 10) 540 850) 541 600) 542 2) 543 20) 544 0) 545 100) 514 150) 519 180))), (q0_19, .inl (ncI δ, 3318, .inl (fun _ => 0))), (q0_25, .inr (5, [.ref q0_7, .int 0, .int 4])), (q0_39, .inr (5, [.ref q0_7, .int 32, .int 11])), (q0_55, .inr (5, [.ref q0_7, .int 472, .int 7])), (q0_72, .inr (5, [.ref q0_7, .int 514, .int 5])), (q0_88, .inr (3, [.ref q0_7, .int 539])), (q0_103, .inr (3, [.ref q0_7, .int 546]))]) rfl ?_
  refine n_iinc (q := 0) (v := 2) (lv' := [(2, .int 2), (1, .ref q0_7), (0, .ref a)]) dX0_init_170 rfl (by decide) (by decide) rfl ?_
  refine n_goto (tgt := 148) dX0_init_173 (by decide) ?_
  refine n_iload_n dX0_init_148 rfl 0 rfl ?_
  refine n_getsY (List.mem_of_getElem? (i := 1) rfl) dX0_init_149 ?_
  refine n_tlenY dX0_init_152 ?_
  refine n_icmp_ge (tgt := 176) dX0_init_153 (by decide) (fun h => absurd h (by decide)) (fun _ => ?_)
  refine n_aload_n dX0_init_156 rfl 2 rfl ?_
  refine n_getf (ref := RX0) 1 3 wGX0 rfl rfl (by decide) (gm1 80 rfl rfl) rfl rfl dX0_init_157 ?_
  refine n_iload_n dX0_init_160 rfl 0 rfl ?_
  refine n_iconst (v := 0) dX0_init_161 (by decide) ?_
  refine n_getsY (List.mem_of_getElem? (i := 1) rfl) dX0_init_162 ?_
  refine n_iload_n dX0_init_165 rfl 0 rfl ?_
  refine n_tiY (x := 200) (by unfold vp_in; decide) rfl dX0_init_166 ?_
  refine n_callV (kc := 0) (ks := 0) (y := yX5_put) (maxL := 5) (b := q0_72) (As := [.int 2, .int 0, .int 200]) (st := []) (d' := 0) (kc' := 0) (ks' := 0) 7 (c_X5_put 7 2 rfl rfl (by decide) (by decide) (by decide)) gvX5_58 rfl rfl rfl (Nat.le_of_ble_eq_true rfl) rfl (Nat.le_of_ble_eq_true rfl) (by decide) dX0_init_167 (fun w9 e9 => ?_)
  subst e9
  refine n_ws (ws' := [(m, .inr (6, [.null, .null, .null, .null, .null, .int 0])), (a, .inr (0, [.ref q0_25, .ref q0_39, .ref q0_55, .ref q0_72, .ref q0_88, .ref q0_103, .ref q0_7, .ref q0_19, .int 0, .int 0])), (q0_7, .inl (ncI δ, 553, .inl (upd (upd (upd (upd (upd (upd (upd (upd (upd (upd (fun _ => 0) 539 10) 540 850) 541 600) 542 2) 543 20) 544 0) 545 100) 514 150) 519 180) 524 200))), (q0_19, .inl (ncI δ, 3318, .inl (fun _ => 0))), (q0_25, .inr (5, [.ref q0_7, .int 0, .int 4])), (q0_39, .inr (5, [.ref q0_7, .int 32, .int 11])), (q0_55, .inr (5, [.ref q0_7, .int 472, .int 7])), (q0_72, .inr (5, [.ref q0_7, .int 514, .int 5])), (q0_88, .inr (3, [.ref q0_7, .int 539])), (q0_103, .inr (3, [.ref q0_7, .int 546]))]) rfl ?_
  refine n_iinc (q := 0) (v := 3) (lv' := [(2, .int 3), (1, .ref q0_7), (0, .ref a)]) dX0_init_170 rfl (by decide) (by decide) rfl ?_
  refine n_goto (tgt := 148) dX0_init_173 (by decide) ?_
  refine n_iload_n dX0_init_148 rfl 0 rfl ?_
  refine n_getsY (List.mem_of_getElem? (i := 1) rfl) dX0_init_149 ?_
  refine n_tlenY dX0_init_152 ?_
  refine n_icmp_ge (tgt := 176) dX0_init_153 (by decide) (fun h => absurd h (by decide)) (fun _ => ?_)
  refine n_aload_n dX0_init_156 rfl 2 rfl ?_
  refine n_getf (ref := RX0) 1 3 wGX0 rfl rfl (by decide) (gm1 80 rfl rfl) rfl rfl dX0_init_157 ?_
  refine n_iload_n dX0_init_160 rfl 0 rfl ?_
  refine n_iconst (v := 0) dX0_init_161 (by decide) ?_
  refine n_getsY (List.mem_of_getElem? (i := 1) rfl) dX0_init_162 ?_
  refine n_iload_n dX0_init_165 rfl 0 rfl ?_
  refine n_tiY (x := 220) (by unfold vp_in; decide) rfl dX0_init_166 ?_
  refine n_callV (kc := 0) (ks := 0) (y := yX5_put) (maxL := 5) (b := q0_72) (As := [.int 3, .int 0, .int 220]) (st := []) (d' := 0) (kc' := 0) (ks' := 0) 7 (c_X5_put 7 2 rfl rfl (by decide) (by decide) (by decide)) gvX5_58 rfl rfl rfl (Nat.le_of_ble_eq_true rfl) rfl (Nat.le_of_ble_eq_true rfl) (by decide) dX0_init_167 (fun w10 e10 => ?_)
  subst e10
  refine n_ws (ws' := [(m, .inr (6, [.null, .null, .null, .null, .null, .int 0])), (a, .inr (0, [.ref q0_25, .ref q0_39, .ref q0_55, .ref q0_72, .ref q0_88, .ref q0_103, .ref q0_7, .ref q0_19, .int 0, .int 0])), (q0_7, .inl (ncI δ, 553, .inl (upd (upd (upd (upd (upd (upd (upd (upd (upd (upd (upd (fun _ => 0) 539 10) 540 850) 541 600) 542 2) 543 20) 544 0) 545 100) 514 150) 519 180) 524 200) 529 220))), (q0_19, .inl (ncI δ, 3318, .inl (fun _ => 0))), (q0_25, .inr (5, [.ref q0_7, .int 0, .int 4])), (q0_39, .inr (5, [.ref q0_7, .int 32, .int 11])), (q0_55, .inr (5, [.ref q0_7, .int 472, .int 7])), (q0_72, .inr (5, [.ref q0_7, .int 514, .int 5])), (q0_88, .inr (3, [.ref q0_7, .int 539])), (q0_103, .inr (3, [.ref q0_7, .int 546]))]) rfl ?_
  refine n_iinc (q := 0) (v := 4) (lv' := [(2, .int 4), (1, .ref q0_7), (0, .ref a)]) dX0_init_170 rfl (by decide) (by decide) rfl ?_
  refine n_goto (tgt := 148) dX0_init_173 (by decide) ?_
  refine n_iload_n dX0_init_148 rfl 0 rfl ?_
  refine n_getsY (List.mem_of_getElem? (i := 1) rfl) dX0_init_149 ?_
  refine n_tlenY dX0_init_152 ?_
  refine n_icmp_ge (tgt := 176) dX0_init_153 (by decide) (fun h => absurd h (by decide)) (fun _ => ?_)
  refine n_aload_n dX0_init_156 rfl 2 rfl ?_
  refine n_getf (ref := RX0) 1 3 wGX0 rfl rfl (by decide) (gm1 80 rfl rfl) rfl rfl dX0_init_157 ?_
  refine n_iload_n dX0_init_160 rfl 0 rfl ?_
  refine n_iconst (v := 0) dX0_init_161 (by decide) ?_
  refine n_getsY (List.mem_of_getElem? (i := 1) rfl) dX0_init_162 ?_
  refine n_iload_n dX0_init_165 rfl 0 rfl ?_
  refine n_tiY (x := 160) (by unfold vp_in; decide) rfl dX0_init_166 ?_
  refine n_callV (kc := 0) (ks := 0) (y := yX5_put) (maxL := 5) (b := q0_72) (As := [.int 4, .int 0, .int 160]) (st := []) (d' := 0) (kc' := 0) (ks' := 0) 7 (c_X5_put 7 2 rfl rfl (by decide) (by decide) (by decide)) gvX5_58 rfl rfl rfl (Nat.le_of_ble_eq_true rfl) rfl (Nat.le_of_ble_eq_true rfl) (by decide) dX0_init_167 (fun w11 e11 => ?_)
  subst e11
  refine n_ws (ws' := [(m, .inr (6, [.null, .null, .null, .null, .null, .int 0])), (a, .inr (0, [.ref q0_25, .ref q0_39, .ref q0_55, .ref q0_72, .ref q0_88, .ref q0_103, .ref q0_7, .ref q0_19, .int 0, .int 0])), (q0_7, .inl (ncI δ, 553, .inl (upd (upd (upd (upd (upd (upd (upd (upd (upd (upd (upd (upd (fun _ => 0) 539 10) 540 850) 541 600) 542 2) 543 20) 544 0) 545 100) 514 150) 519 180) 524 200) 529 220) 534 160))), (q0_19, .inl (ncI δ, 3318, .inl (fun _ => 0))), (q0_25, .inr (5, [.ref q0_7, .int 0, .int 4])), (q0_39, .inr (5, [.ref q0_7, .int 32, .int 11])), (q0_55, .inr (5, [.ref q0_7, .int 472, .int 7])), (q0_72, .inr (5, [.ref q0_7, .int 514, .int 5])), (q0_88, .inr (3, [.ref q0_7, .int 539])), (q0_103, .inr (3, [.ref q0_7, .int 546]))]) rfl ?_
  refine n_iinc (q := 0) (v := 5) (lv' := [(2, .int 5), (1, .ref q0_7), (0, .ref a)]) dX0_init_170 rfl (by decide) (by decide) rfl ?_
  refine n_goto (tgt := 148) dX0_init_173 (by decide) ?_
  refine n_iload_n dX0_init_148 rfl 0 rfl ?_
  refine n_getsY (List.mem_of_getElem? (i := 1) rfl) dX0_init_149 ?_
  refine n_tlenY dX0_init_152 ?_
  refine n_icmp_ge (tgt := 176) dX0_init_153 (by decide) (fun _ => ?_) (fun h => absurd (by decide) h)
  exact n_ret dX0_init_176 ⟨q0_7, q0_19, q0_25, q0_39, q0_55, q0_72, q0_88, q0_103, rfl⟩
