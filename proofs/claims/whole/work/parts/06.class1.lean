def jb_X3_get_7_30  (s0 : Int32) (h : Hst) : Option (Int32 × Hst) :=
  (some (s0, h))
def jb_X3_get_7_29   (h : Hst) : Option (Int32 × Hst) :=
  (jb_X3_get_7_30 0 h)
def f_X3_get_7 (p0 : Int32) (h : Hst) : Option (Int32 × Hst) :=
  gl (546 + p0) fun x1 =>
  (if x1 < 0 then
    (jb_X3_get_7_29 h)
  else
    (if 553 ≤ x1 then
      (jb_X3_get_7_29 h)
    else
      gck x1 553 ((jb_X3_get_7_30 (h.1 8 x1.toNatClampNeg) h))))
set_option maxRecDepth 20000 in
theorem gjb_X3_get_7_30 (γ : Gv)  (s0 : Int32) (h : Hst) : G γ RX3 cX3_get 3 (some .int) [] vI 0 0 30 [] [.int s0] h (jb_X3_get_7_30 s0 h) := by
  unfold jb_X3_get_7_30
  exact g_ireturn (pc := 30) (ty := .int) dX3_get_30 rfl rfl rfl
set_option maxRecDepth 20000 in
theorem gjb_X3_get_7_29 (γ : Gv)   (h : Hst) : G γ RX3 cX3_get 3 (some .int) [] vI 0 0 29 [] [] h (jb_X3_get_7_29 h) := by
  unfold jb_X3_get_7_29
  refine g_iconst (pc := 29) (v := 0) dX3_get_29 (by decide) ?_
  exact gjb_X3_get_7_30 γ 0 h
set_option maxRecDepth 20000 in
theorem ge_X3_get_7 (γ : Gv) (p0 : Int32) (h : Hst) : G γ RX3 cX3_get 3 (some .int) [] vI 0 0 0 (lv_args 0 [.ref (gad γ 7), .int p0]) [] h (f_X3_get_7 p0 h) := by
  show G γ RX3 cX3_get 3 (some .int) [] vI 0 0 0 [(0, .ref (gad γ 7)), (1, .int p0)] [] h (f_X3_get_7 p0 h)
  unfold f_X3_get_7
  refine g_aload_n (pc := 0) dX3_get_0 rfl 0 rfl ?_
  refine gf_RX3_13_7 (pc := 1) dX3_get_1 ?_
  refine g_iload_n (pc := 4) dX3_get_4 rfl 1 rfl ?_
  refine g_iadd (pc := 5) dX3_get_5 ?_
  refine g_nmi (fun x1 => ?_)
  refine g_istore_n (pc := 6) (lv' := [(2, .int x1), (0, .ref (gad γ 7)), (1, .int p0)]) dX3_get_6 rfl (by decide) rfl ?_
  refine g_iload_n (pc := 7) dX3_get_7 rfl 0 rfl ?_
  refine g_if_lt (pc := 8) (tgt := 29) dX3_get_8 (by decide) ?_ ?_
  · exact g_sub [] rfl (gjb_X3_get_7_29 γ h)
  · refine g_iload_n (pc := 11) dX3_get_11 rfl 0 rfl ?_
    refine g_aload_n (pc := 12) dX3_get_12 rfl 1 rfl ?_
    refine gf_RX3_7_7 (pc := 13) dX3_get_13 ?_
    refine g_alen (pc := 16) (n := 0) (v := 553) 8 0 (gat_8 _ _) rfl rfl dX3_get_16 ?_
    refine g_icmp_ge (pc := 17) (tgt := 29) dX3_get_17 (by decide) ?_ ?_
    · exact g_sub [] rfl (gjb_X3_get_7_29 γ h)
    · refine g_aload_n (pc := 20) dX3_get_20 rfl 1 rfl ?_
      refine gf_RX3_7_7 (pc := 21) dX3_get_21 ?_
      refine g_iload_n (pc := 24) dX3_get_24 rfl 0 rfl ?_
      refine g_iald (pc := 25) 8 (gat_8 _ _) dX3_get_25 ?_
      refine g_goto (pc := 26) (tgt := 30) dX3_get_26 (by decide) ?_
      exact g_sub [] rfl (gjb_X3_get_7_30 γ (h.1 8 x1.toNatClampNeg) h)
def f_X0_placeOfSaved (p0 : Int32) (h : Hst) : Option (Int32 × Hst) :=
  gdz 6 ((some ((((h.1 1 8) + p0) - ((h.1 1 8) + p0) / 6 * 6) * 553, h)))
set_option maxRecDepth 20000 in
theorem ge_X0_placeOfSaved (γ : Gv) (p0 : Int32) (h : Hst) : G γ RX0 cX0_placeOfSaved 2 (some .int) [] vI 0 0 0 (lv_args 0 [.ref (gad γ 1), .int p0]) [] h (f_X0_placeOfSaved p0 h) := by
  show G γ RX0 cX0_placeOfSaved 2 (some .int) [] vI 0 0 0 [(0, .ref (gad γ 1)), (1, .int p0)] [] h (f_X0_placeOfSaved p0 h)
  unfold f_X0_placeOfSaved
  refine g_aload_n (pc := 0) dX0_placeOfSaved_0 rfl 0 rfl ?_
  refine gf_RX0_69_1 (pc := 1) dX0_placeOfSaved_1 ?_
  refine g_iload_n (pc := 4) dX0_placeOfSaved_4 rfl 1 rfl ?_
  refine g_iadd (pc := 5) dX0_placeOfSaved_5 ?_
  refine g_bipush (pc := 6) (v := 6) dX0_placeOfSaved_6 (by decide) ?_
  refine g_irem (pc := 8) dX0_placeOfSaved_8 ?_
  refine g_sipush (pc := 9) (v := 553) dX0_placeOfSaved_9 (by decide) ?_
  refine g_imul (pc := 12) dX0_placeOfSaved_12 ?_
  exact g_ireturn (pc := 13) (ty := .int) dX0_placeOfSaved_13 rfl rfl rfl
def jb_X0_save_74   (h : Hst) : Option (Hst) :=
  gl (hst h 1 9 ((h.1 1 9) + 1)) fun h1 =>
  (some h1)
def jb_X0_save_32   (h : Hst) : Option (Hst) :=
  gb (f_X0_placeOfSaved (h.1 1 9) h) fun x2 h1 =>
  (if x2 < 0 then
    (jb_X0_save_74 h1)
  else
    (if (3318 - 553) < x2 then
      (jb_X0_save_74 h1)
    else
      gcp 0 x2 553 553 3318 (gl (hso h1 9 (va_cpy (h1.1 8) (h1.1 9) (0 : Int32).toNatClampNeg x2.toNatClampNeg (553 : Int32).toNatClampNeg)) fun h3 =>
      (jb_X0_save_74 h3))))
def f_X0_save  (h : Hst) : Option (Hst) :=
  (if (h.1 1 9) = 6 then
    gdz 6 (gl (hst h 1 8 (((h.1 1 8) + 1) - ((h.1 1 8) + 1) / 6 * 6)) fun h1 =>
    gl (hst h1 1 9 ((h1.1 1 9) - 1)) fun h2 =>
    (jb_X0_save_32 h2))
  else
    (jb_X0_save_32 h))
set_option maxRecDepth 20000 in
theorem gjb_X0_save_74 (γ : Gv)   (h : Hst) : G γ RX0 cX0_save 2 none [] vV 1 0 74 [(0, .ref (gad γ 1))] [] h (jb_X0_save_74 h) := by
  unfold jb_X0_save_74
  refine g_aload_n (pc := 74) dX0_save_74 rfl 0 rfl ?_
  refine g_dup (pc := 75) dX0_save_75 rfl ?_
  refine gf_RX0_65_1 (pc := 76) dX0_save_76 ?_
  refine g_iconst (pc := 79) (v := 1) dX0_save_79 (by decide) ?_
  refine g_iadd (pc := 80) dX0_save_80 ?_
  refine pf_RX0_65_1 (pc := 81) dX0_save_81 ?_
  refine g_nmh (fun h1 => ?_)
  exact g_return (pc := 84) dX0_save_84 rfl rfl
set_option maxRecDepth 20000 in
theorem gjb_X0_save_32 (γ : Gv)   (h : Hst) : G γ RX0 cX0_save 2 none [] vV 1 0 32 [(0, .ref (gad γ 1))] [] h (jb_X0_save_32 h) := by
  unfold jb_X0_save_32
  refine g_aload_n (pc := 32) dX0_save_32 rfl 0 rfl ?_
  refine g_aload_n (pc := 33) dX0_save_33 rfl 0 rfl ?_
  refine gf_RX0_65_1 (pc := 34) dX0_save_34 ?_
  refine g_cI (pc := 37) (st := []) (fun r hr => gRunV (As := [.int (h.1 1 9)]) 1 (ge_X0_placeOfSaved γ (h.1 1 9) h) hr wv_RX0_72 rfl (Nat.le_of_ble_eq_true rfl) (gat_1 _ _) rfl rfl (Nat.le_of_ble_eq_true rfl) (Nat.le_of_ble_eq_true rfl) dX0_save_37) (fun x2 h1 => ?_)
  refine g_istore_n (pc := 40) (lv' := [(1, .int x2), (0, .ref (gad γ 1))]) dX0_save_40 rfl (by decide) rfl ?_
  refine g_iload_n (pc := 41) dX0_save_41 rfl 0 rfl ?_
  refine g_if_lt (pc := 42) (tgt := 74) dX0_save_42 (by decide) ?_ ?_
  · exact g_sub [1] rfl (gjb_X0_save_74 γ h1)
  · refine g_iload_n (pc := 45) dX0_save_45 rfl 0 rfl ?_
    refine g_aload_n (pc := 46) dX0_save_46 rfl 1 rfl ?_
    refine gf_RX0_15_1 (pc := 47) dX0_save_47 ?_
    refine g_alen (pc := 50) (n := 0) (v := 3318) 9 0 (gat_9 _ _) rfl rfl dX0_save_50 ?_
    refine g_sipush (pc := 51) (v := 553) dX0_save_51 (by decide) ?_
    refine g_isub (pc := 54) dX0_save_54 ?_
    refine g_icmp_gt (pc := 55) (tgt := 74) dX0_save_55 (by decide) ?_ ?_
    · exact g_sub [1] rfl (gjb_X0_save_74 γ h1)
    · refine g_aload_n (pc := 58) dX0_save_58 rfl 1 rfl ?_
      refine gf_RX0_11_1 (pc := 59) dX0_save_59 ?_
      refine g_iconst (pc := 62) (v := 0) dX0_save_62 (by decide) ?_
      refine g_aload_n (pc := 63) dX0_save_63 rfl 1 rfl ?_
      refine gf_RX0_15_1 (pc := 64) dX0_save_64 ?_
      refine g_iload_n (pc := 67) dX0_save_67 rfl 0 rfl ?_
      refine g_sipush (pc := 68) (v := 553) dX0_save_68 (by decide) ?_
      refine g_copyi (pc := 71) 8 9 wk_RX0_76 wa_1 wa_2 wa_3 (gat_8 _ _) (gat_9 _ _) (gset_9 _ _ _) (Nat.le_of_ble_eq_true rfl) (Nat.le_of_ble_eq_true rfl) dX0_save_71 ?_
      refine g_nmh (fun h3 => ?_)
      exact g_sub [1] rfl (gjb_X0_save_74 γ h3)
set_option maxRecDepth 20000 in
theorem ge_X0_save (γ : Gv)  (h : Hst) : G γ RX0 cX0_save 2 none [] vV 1 0 0 (lv_args 0 [.ref (gad γ 1)]) [] h (f_X0_save h) := by
  show G γ RX0 cX0_save 2 none [] vV 1 0 0 [(0, .ref (gad γ 1))] [] h (f_X0_save h)
  unfold f_X0_save
  refine g_aload_n (pc := 0) dX0_save_0 rfl 0 rfl ?_
  refine gf_RX0_65_1 (pc := 1) dX0_save_1 ?_
  refine g_bipush (pc := 4) (v := 6) dX0_save_4 (by decide) ?_
  refine g_icmp_ne (pc := 6) (tgt := 32) dX0_save_6 (by decide) ?_ ?_
  · exact gjb_X0_save_32 γ h
  · refine g_aload_n (pc := 9) dX0_save_9 rfl 0 rfl ?_
    refine g_aload_n (pc := 10) dX0_save_10 rfl 0 rfl ?_
    refine gf_RX0_69_1 (pc := 11) dX0_save_11 ?_
    refine g_iconst (pc := 14) (v := 1) dX0_save_14 (by decide) ?_
    refine g_iadd (pc := 15) dX0_save_15 ?_
    refine g_bipush (pc := 16) (v := 6) dX0_save_16 (by decide) ?_
    refine g_irem (pc := 18) dX0_save_18 ?_
    refine pf_RX0_69_1 (pc := 19) dX0_save_19 ?_
    refine g_nmh (fun h1 => ?_)
    refine g_aload_n (pc := 22) dX0_save_22 rfl 0 rfl ?_
    refine g_dup (pc := 23) dX0_save_23 rfl ?_
    refine gf_RX0_65_1 (pc := 24) dX0_save_24 ?_
    refine g_iconst (pc := 27) (v := 1) dX0_save_27 (by decide) ?_
    refine g_isub (pc := 28) dX0_save_28 ?_
    refine pf_RX0_65_1 (pc := 29) dX0_save_29 ?_
    refine g_nmh (fun h2 => ?_)
    exact gjb_X0_save_32 γ h2
def jb_X3_put_7_27   (h : Hst) : Option (Hst) :=
  (some h)
def f_X3_put_7 (p0 : Int32) (p1 : Int32) (h : Hst) : Option (Hst) :=
  gl (546 + p0) fun x1 =>
  (if x1 < 0 then
    (jb_X3_put_7_27 h)
  else
    (if 553 ≤ x1 then
      (jb_X3_put_7_27 h)
    else
      gck x1 553 (gl (hst h 8 x1.toNatClampNeg p1) fun h2 =>
      (jb_X3_put_7_27 h2))))
set_option maxRecDepth 20000 in
theorem gjb_X3_put_7_27 (γ : Gv)   (h : Hst) : G γ RX3 cX3_put 4 none [] vV 0 0 27 [] [] h (jb_X3_put_7_27 h) := by
  unfold jb_X3_put_7_27
  exact g_return (pc := 27) dX3_put_27 rfl rfl
set_option maxRecDepth 20000 in
theorem ge_X3_put_7 (γ : Gv) (p0 : Int32) (p1 : Int32) (h : Hst) : G γ RX3 cX3_put 4 none [] vV 0 0 0 (lv_args 0 [.ref (gad γ 7), .int p0, .int p1]) [] h (f_X3_put_7 p0 p1 h) := by
  show G γ RX3 cX3_put 4 none [] vV 0 0 0 [(0, .ref (gad γ 7)), (1, .int p0), (2, .int p1)] [] h (f_X3_put_7 p0 p1 h)
  unfold f_X3_put_7
  refine g_aload_n (pc := 0) dX3_put_0 rfl 0 rfl ?_
  refine gf_RX3_13_7 (pc := 1) dX3_put_1 ?_
  refine g_iload_n (pc := 4) dX3_put_4 rfl 1 rfl ?_
  refine g_iadd (pc := 5) dX3_put_5 ?_
  refine g_nmi (fun x1 => ?_)
  refine g_istore_n (pc := 6) (lv' := [(3, .int x1), (0, .ref (gad γ 7)), (1, .int p0), (2, .int p1)]) dX3_put_6 rfl (by decide) rfl ?_
  refine g_iload_n (pc := 7) dX3_put_7 rfl 0 rfl ?_
  refine g_if_lt (pc := 8) (tgt := 27) dX3_put_8 (by decide) ?_ ?_
  · exact g_sub [] rfl (gjb_X3_put_7_27 γ h)
  · refine g_iload_n (pc := 11) dX3_put_11 rfl 0 rfl ?_
    refine g_aload_n (pc := 12) dX3_put_12 rfl 1 rfl ?_
    refine gf_RX3_7_7 (pc := 13) dX3_put_13 ?_
    refine g_alen (pc := 16) (n := 0) (v := 553) 8 0 (gat_8 _ _) rfl rfl dX3_put_16 ?_
    refine g_icmp_ge (pc := 17) (tgt := 27) dX3_put_17 (by decide) ?_ ?_
    · exact g_sub [] rfl (gjb_X3_put_7_27 γ h)
    · refine g_aload_n (pc := 20) dX3_put_20 rfl 1 rfl ?_
      refine gf_RX3_7_7 (pc := 21) dX3_put_21 ?_
      refine g_iload_n (pc := 24) dX3_put_24 rfl 0 rfl ?_
      refine g_iload_n (pc := 25) dX3_put_25 rfl 3 rfl ?_
      refine g_iast (pc := 26) 8 (gat_8 _ _) (gset_8 _ _ _) dX3_put_26 ?_
      refine g_nmh (fun h2 => ?_)
      exact g_sub [] rfl (gjb_X3_put_7_27 γ h2)
def f_X3_add_7 (p0 : Int32) (p1 : Int32) (h : Hst) : Option (Hst) :=
  gb (f_X3_get_7 p0 h) fun x2 h1 =>
  gbv (f_X3_put_7 p0 (x2 + p1) h1) fun h3 =>
  (some h3)
set_option maxRecDepth 20000 in
theorem ge_X3_add_7 (γ : Gv) (p0 : Int32) (p1 : Int32) (h : Hst) : G γ RX3 cX3_add 3 none [] vV 1 0 0 (lv_args 0 [.ref (gad γ 7), .int p0, .int p1]) [] h (f_X3_add_7 p0 p1 h) := by
  show G γ RX3 cX3_add 3 none [] vV 1 0 0 [(0, .ref (gad γ 7)), (1, .int p0), (2, .int p1)] [] h (f_X3_add_7 p0 p1 h)
  unfold f_X3_add_7
  refine g_aload_n (pc := 0) dX3_add_0 rfl 0 rfl ?_
  refine g_iload_n (pc := 1) dX3_add_1 rfl 1 rfl ?_
  refine g_aload_n (pc := 2) dX3_add_2 rfl 0 rfl ?_
  refine g_iload_n (pc := 3) dX3_add_3 rfl 1 rfl ?_
  refine g_cI (pc := 4) (st := [.int p0, .ref (gad γ 7)]) (fun r hr => gRunV (As := [.int p0]) 7 (ge_X3_get_7 γ p0 h) hr wv_RX3_17 rfl (Nat.le_of_ble_eq_true rfl) (gat_7 _ _) rfl rfl (Nat.le_of_ble_eq_true rfl) (Nat.le_of_ble_eq_true rfl) dX3_add_4) (fun x2 h1 => ?_)
  refine g_iload_n (pc := 7) dX3_add_7 rfl 2 rfl ?_
  refine g_iadd (pc := 8) dX3_add_8 ?_
  refine g_cV (pc := 9) (st := []) (fun r hr => gRunV (As := [.int p0, .int (x2 + p1)]) 7 (ge_X3_put_7 γ p0 (x2 + p1) h1) hr wv_RX3_21 rfl (Nat.le_of_ble_eq_true rfl) (gat_7 _ _) rfl rfl (Nat.le_of_ble_eq_true rfl) (Nat.le_of_ble_eq_true rfl) dX3_add_9) (fun h3 => ?_)
  exact g_return (pc := 12) dX3_add_12 rfl rfl
def f_X6_addGrower  (h : Hst) : Option ((Int32 × Hst) ⊕ (Nat × Hst)) :=
  gb (f_X3_get_7 0 h) fun x2 h1 =>
  (if x2 < 8 then
    gbv (f_X0_save h1) fun h3 =>
    gbv (f_X3_add_7 0 1 h3) fun h4 =>
    (some (.inl (x2, h4)))
  else
    (some (.inr (2, h1))))
set_option maxRecDepth 20000 in
theorem ge_X6_addGrower (γ : Gv)  (h : Hst) : G γ RX6 cX6_addGrower 2 (some .int) [] vIX 6 0 0 (lv_args 0 [.ref (gad γ 0)]) [] h (f_X6_addGrower h) := by
  show G γ RX6 cX6_addGrower 2 (some .int) [] vIX 6 0 0 [(0, .ref (gad γ 0))] [] h (f_X6_addGrower h)
  unfold f_X6_addGrower
  refine g_aload_n (pc := 0) dX6_addGrower_0 rfl 0 rfl ?_
  refine gf_RX6_12_0 (pc := 1) dX6_addGrower_1 ?_
  refine gf_RX6_47_1 (pc := 4) dX6_addGrower_4 ?_
  refine g_iconst (pc := 7) (v := 0) dX6_addGrower_7 (by decide) ?_
  refine g_cI (pc := 8) (st := []) (fun r hr => gRunV (As := [.int 0]) 7 (ge_X3_get_7 γ 0 h) hr wv_RX6_51 rfl (Nat.le_of_ble_eq_true rfl) (gat_7 _ _) rfl rfl (Nat.le_of_ble_eq_true rfl) (Nat.le_of_ble_eq_true rfl) dX6_addGrower_8) (fun x2 h1 => ?_)
  refine g_istore_n (pc := 11) (lv' := [(1, .int x2), (0, .ref (gad γ 0))]) dX6_addGrower_11 rfl (by decide) rfl ?_
  refine g_iload_n (pc := 12) dX6_addGrower_12 rfl 0 rfl ?_
  refine g_bipush (pc := 13) (v := 8) dX6_addGrower_13 (by decide) ?_
  refine g_icmp_lt (pc := 15) (tgt := 28) dX6_addGrower_15 (by decide) ?_ ?_
  · refine g_aload_n (pc := 28) dX6_addGrower_28 rfl 1 rfl ?_
    refine gf_RX6_12_0 (pc := 29) dX6_addGrower_29 ?_
    refine g_cV (pc := 32) (st := []) (fun r hr => gRunV (As := []) 1 (ge_X0_save γ h1) hr wv_RX6_64 rfl (Nat.le_of_ble_eq_true rfl) (gat_1 _ _) rfl rfl (Nat.le_of_ble_eq_true rfl) (Nat.le_of_ble_eq_true rfl) dX6_addGrower_32) (fun h3 => ?_)
    refine g_aload_n (pc := 35) dX6_addGrower_35 rfl 1 rfl ?_
    refine gf_RX6_12_0 (pc := 36) dX6_addGrower_36 ?_
    refine gf_RX6_47_1 (pc := 39) dX6_addGrower_39 ?_
    refine g_iconst (pc := 42) (v := 0) dX6_addGrower_42 (by decide) ?_
    refine g_iconst (pc := 43) (v := 1) dX6_addGrower_43 (by decide) ?_
    refine g_cV (pc := 44) (st := []) (fun r hr => gRunV (As := [.int 0, .int 1]) 7 (ge_X3_add_7 γ 0 1 h3) hr wv_RX6_67 rfl (Nat.le_of_ble_eq_true rfl) (gat_7 _ _) rfl rfl (Nat.le_of_ble_eq_true rfl) (Nat.le_of_ble_eq_true rfl) dX6_addGrower_44) (fun h4 => ?_)
    refine g_iload_n (pc := 47) dX6_addGrower_47 rfl 0 rfl ?_
    exact g_ireturn (pc := 48) (ty := .int) dX6_addGrower_48 rfl rfl rfl
  · exact g_throwS 2 (by decide +kernel) wcl_RX6_57 wini_2 wat_RX6_61_2 rfl (by decide +kernel : (59, "there are 8 growers") ∈ gstrs) (Nat.le_of_ble_eq_true rfl) (fun x hx => nomatch hx) dX6_addGrower_18 dX6_addGrower_21 dX6_addGrower_22 dX6_addGrower_24 dX6_addGrower_27 (fun z hz => by cases hz; rfl)
def jb_X6_checkGrower_19   (h : Hst) : Option ((Hst) ⊕ (Nat × Hst)) :=
  (some (.inr (0, h)))
def f_X6_checkGrower (p0 : Int32) (h : Hst) : Option ((Hst) ⊕ (Nat × Hst)) :=
  (if p0 < 0 then
    (jb_X6_checkGrower_19 h)
  else
    gb (f_X3_get_7 0 h) fun x2 h1 =>
    (if p0 < x2 then
      (some (.inl h1))
    else
      (jb_X6_checkGrower_19 h1)))
set_option maxRecDepth 20000 in
theorem gjb_X6_checkGrower_19 (γ : Gv)   (h : Hst) : G γ RX6 cX6_checkGrower 2 none [] vVX 6 0 19 [] [] h (jb_X6_checkGrower_19 h) := by
  unfold jb_X6_checkGrower_19
  exact g_throwSW 0 (by decide +kernel) wcl_RX6_122 wini_0 wat_RX6_126_0 rfl (by decide +kernel : (377, "there is no such grower") ∈ gstrs) (Nat.le_of_ble_eq_true rfl) (fun x hx => nomatch hx) dX6_checkGrower_19 dX6_checkGrower_22 dX6_checkGrower_23 dX6_checkGrower_26 dX6_checkGrower_29 (fun z hz => by cases hz; rfl)
set_option maxRecDepth 20000 in
theorem ge_X6_checkGrower (γ : Gv) (p0 : Int32) (h : Hst) : G γ RX6 cX6_checkGrower 2 none [] vVX 6 0 0 (lv_args 0 [.ref (gad γ 0), .int p0]) [] h (f_X6_checkGrower p0 h) := by
  show G γ RX6 cX6_checkGrower 2 none [] vVX 6 0 0 [(0, .ref (gad γ 0)), (1, .int p0)] [] h (f_X6_checkGrower p0 h)
  unfold f_X6_checkGrower
  refine g_iload_n (pc := 0) dX6_checkGrower_0 rfl 1 rfl ?_
  refine g_if_lt (pc := 1) (tgt := 19) dX6_checkGrower_1 (by decide) ?_ ?_
  · exact g_sub [] rfl (gjb_X6_checkGrower_19 γ h)
  · refine g_iload_n (pc := 4) dX6_checkGrower_4 rfl 1 rfl ?_
    refine g_aload_n (pc := 5) dX6_checkGrower_5 rfl 0 rfl ?_
    refine gf_RX6_12_0 (pc := 6) dX6_checkGrower_6 ?_
    refine gf_RX6_47_1 (pc := 9) dX6_checkGrower_9 ?_
    refine g_iconst (pc := 12) (v := 0) dX6_checkGrower_12 (by decide) ?_
    refine g_cI (pc := 13) (st := [.int p0]) (fun r hr => gRunV (As := [.int 0]) 7 (ge_X3_get_7 γ 0 h) hr wv_RX6_51 rfl (Nat.le_of_ble_eq_true rfl) (gat_7 _ _) rfl rfl (Nat.le_of_ble_eq_true rfl) (Nat.le_of_ble_eq_true rfl) dX6_checkGrower_13) (fun x2 h1 => ?_)
    refine g_icmp_lt (pc := 16) (tgt := 30) dX6_checkGrower_16 (by decide) ?_ ?_
    · exact g_return (pc := 30) dX6_checkGrower_30 rfl rfl
    · exact g_sub [] rfl (gjb_X6_checkGrower_19 γ h1)
def jb_X6_isVariety_14  (s0 : Int32) (h : Hst) : Option (Int32 × Hst) :=
  (gzr s0 (some (s0, h)))
def jb_X6_isVariety_13   (h : Hst) : Option (Int32 × Hst) :=
  (jb_X6_isVariety_14 0 h)
def f_X6_isVariety (p0 : Int32) (h : Hst) : Option (Int32 × Hst) :=
  (if p0 < 0 then
    (jb_X6_isVariety_13 h)
  else
    (if 5 ≤ p0 then
      (jb_X6_isVariety_13 h)
    else
      (jb_X6_isVariety_14 1 h)))
set_option maxRecDepth 20000 in
theorem gjb_X6_isVariety_14 (γ : Gv)  (s0 : Int32) (h : Hst) : G γ RX6 cX6_isVariety 1 (some .boolean) [] vI 0 0 14 [] [.int s0] h (jb_X6_isVariety_14 s0 h) := by
  unfold jb_X6_isVariety_14
  exact g_zreturn (pc := 14) dX6_isVariety_14 rfl rfl
set_option maxRecDepth 20000 in
theorem gjb_X6_isVariety_13 (γ : Gv)   (h : Hst) : G γ RX6 cX6_isVariety 1 (some .boolean) [] vI 0 0 13 [] [] h (jb_X6_isVariety_13 h) := by
  unfold jb_X6_isVariety_13
  refine g_iconst (pc := 13) (v := 0) dX6_isVariety_13 (by decide) ?_
  exact gjb_X6_isVariety_14 γ 0 h
set_option maxRecDepth 20000 in
theorem ge_X6_isVariety (γ : Gv) (p0 : Int32) (h : Hst) : G γ RX6 cX6_isVariety 1 (some .boolean) [] vI 0 0 0 (lv_args 0 [.int p0]) [] h (f_X6_isVariety p0 h) := by
  show G γ RX6 cX6_isVariety 1 (some .boolean) [] vI 0 0 0 [(0, .int p0)] [] h (f_X6_isVariety p0 h)
  unfold f_X6_isVariety
  refine g_iload_n (pc := 0) dX6_isVariety_0 rfl 0 rfl ?_
  refine g_if_lt (pc := 1) (tgt := 13) dX6_isVariety_1 (by decide) ?_ ?_
  · exact g_sub [] rfl (gjb_X6_isVariety_13 γ h)
  · refine g_iload_n (pc := 4) dX6_isVariety_4 rfl 0 rfl ?_
    refine g_iconst (pc := 5) (v := 5) dX6_isVariety_5 (by decide) ?_
    refine g_icmp_ge (pc := 6) (tgt := 13) dX6_isVariety_6 (by decide) ?_ ?_
    · exact g_sub [] rfl (gjb_X6_isVariety_13 γ h)
    · refine g_iconst (pc := 9) (v := 1) dX6_isVariety_9 (by decide) ?_
      refine g_goto (pc := 10) (tgt := 14) dX6_isVariety_10 (by decide) ?_
      exact g_sub [] rfl (gjb_X6_isVariety_14 γ 1 h)
def jb_X6_isOutside_15  (s0 : Int32) (h : Hst) : Option (Int32 × Hst) :=
  (gzr s0 (some (s0, h)))
def jb_X6_isOutside_10   (h : Hst) : Option (Int32 × Hst) :=
  (jb_X6_isOutside_15 1 h)
def f_X6_isOutside (p0 : Int32) (p1 : Int32) (p2 : Int32) (h : Hst) : Option (Int32 × Hst) :=
  (if p0 < p1 then
    (jb_X6_isOutside_10 h)
  else
    (if p0 ≤ p2 then
      (jb_X6_isOutside_15 0 h)
    else
      (jb_X6_isOutside_10 h)))
set_option maxRecDepth 20000 in
theorem gjb_X6_isOutside_15 (γ : Gv)  (s0 : Int32) (h : Hst) : G γ RX6 cX6_isOutside 3 (some .boolean) [] vI 0 0 15 [] [.int s0] h (jb_X6_isOutside_15 s0 h) := by
  unfold jb_X6_isOutside_15
  exact g_zreturn (pc := 15) dX6_isOutside_15 rfl rfl
set_option maxRecDepth 20000 in
theorem gjb_X6_isOutside_10 (γ : Gv)   (h : Hst) : G γ RX6 cX6_isOutside 3 (some .boolean) [] vI 0 0 10 [] [] h (jb_X6_isOutside_10 h) := by
  unfold jb_X6_isOutside_10
  refine g_iconst (pc := 10) (v := 1) dX6_isOutside_10 (by decide) ?_
  refine g_goto (pc := 11) (tgt := 15) dX6_isOutside_11 (by decide) ?_
  exact gjb_X6_isOutside_15 γ 1 h
set_option maxRecDepth 20000 in
theorem ge_X6_isOutside (γ : Gv) (p0 : Int32) (p1 : Int32) (p2 : Int32) (h : Hst) : G γ RX6 cX6_isOutside 3 (some .boolean) [] vI 0 0 0 (lv_args 0 [.int p0, .int p1, .int p2]) [] h (f_X6_isOutside p0 p1 p2 h) := by
  show G γ RX6 cX6_isOutside 3 (some .boolean) [] vI 0 0 0 [(0, .int p0), (1, .int p1), (2, .int p2)] [] h (f_X6_isOutside p0 p1 p2 h)
  unfold f_X6_isOutside
  refine g_iload_n (pc := 0) dX6_isOutside_0 rfl 0 rfl ?_
  refine g_iload_n (pc := 1) dX6_isOutside_1 rfl 1 rfl ?_
  refine g_icmp_lt (pc := 2) (tgt := 10) dX6_isOutside_2 (by decide) ?_ ?_
  · exact g_sub [] rfl (gjb_X6_isOutside_10 γ h)
  · refine g_iload_n (pc := 5) dX6_isOutside_5 rfl 0 rfl ?_
    refine g_iload_n (pc := 6) dX6_isOutside_6 rfl 2 rfl ?_
    refine g_icmp_le (pc := 7) (tgt := 14) dX6_isOutside_7 (by decide) ?_ ?_
    · refine g_iconst (pc := 14) (v := 0) dX6_isOutside_14 (by decide) ?_
      exact g_sub [] rfl (gjb_X6_isOutside_15 γ 0 h)
    · exact g_sub [] rfl (gjb_X6_isOutside_10 γ h)
def jb_X5_put_3_38   (h : Hst) : Option (Hst) :=
  (some h)
def f_X5_put_3 (p0 : Int32) (p1 : Int32) (p2 : Int32) (h : Hst) : Option (Hst) :=
  gl ((32 + (p0 * 11)) + p1) fun x1 =>
  (if x1 < 0 then
    (jb_X5_put_3_38 h)
  else
    (if 553 ≤ x1 then
      (jb_X5_put_3_38 h)
    else
      gck x1 553 (gl (hst h 8 x1.toNatClampNeg p2) fun h2 =>
      (jb_X5_put_3_38 h2))))
set_option maxRecDepth 20000 in
theorem gjb_X5_put_3_38 (γ : Gv)   (h : Hst) : G γ RX5 cX5_put 5 none [] vV 0 0 38 [] [] h (jb_X5_put_3_38 h) := by
  unfold jb_X5_put_3_38
  exact g_return (pc := 38) dX5_put_38 rfl rfl
set_option maxRecDepth 20000 in
theorem ge_X5_put_3 (γ : Gv) (p0 : Int32) (p1 : Int32) (p2 : Int32) (h : Hst) : G γ RX5 cX5_put 5 none [] vV 0 0 0 (lv_args 0 [.ref (gad γ 3), .int p0, .int p1, .int p2]) [] h (f_X5_put_3 p0 p1 p2 h) := by
  show G γ RX5 cX5_put 5 none [] vV 0 0 0 [(0, .ref (gad γ 3)), (1, .int p0), (2, .int p1), (3, .int p2)] [] h (f_X5_put_3 p0 p1 p2 h)
  unfold f_X5_put_3
  refine g_aload_n (pc := 0) dX5_put_0 rfl 0 rfl ?_
  refine gf_RX5_13_3 (pc := 1) dX5_put_1 ?_
  refine g_iload_n (pc := 4) dX5_put_4 rfl 1 rfl ?_
  refine g_aload_n (pc := 5) dX5_put_5 rfl 0 rfl ?_
  refine gf_RX5_17_3 (pc := 6) dX5_put_6 ?_
  refine g_imul (pc := 9) dX5_put_9 ?_
  refine g_iadd (pc := 10) dX5_put_10 ?_
  refine g_iload_n (pc := 11) dX5_put_11 rfl 2 rfl ?_
  refine g_iadd (pc := 12) dX5_put_12 ?_
  refine g_nmi (fun x1 => ?_)
  refine g_istore (pc := 13) (lv' := [(4, .int x1), (0, .ref (gad γ 3)), (1, .int p0), (2, .int p1), (3, .int p2)]) dX5_put_13 (by decide) rfl ?_
  refine g_iload (pc := 15) dX5_put_15 0 rfl ?_
  refine g_if_lt (pc := 17) (tgt := 38) dX5_put_17 (by decide) ?_ ?_
  · exact g_sub [] rfl (gjb_X5_put_3_38 γ h)
  · refine g_iload (pc := 20) dX5_put_20 0 rfl ?_
    refine g_aload_n (pc := 22) dX5_put_22 rfl 1 rfl ?_
    refine gf_RX5_7_3 (pc := 23) dX5_put_23 ?_
    refine g_alen (pc := 26) (n := 0) (v := 553) 8 0 (gat_8 _ _) rfl rfl dX5_put_26 ?_
    refine g_icmp_ge (pc := 27) (tgt := 38) dX5_put_27 (by decide) ?_ ?_
    · exact g_sub [] rfl (gjb_X5_put_3_38 γ h)
    · refine g_aload_n (pc := 30) dX5_put_30 rfl 1 rfl ?_
      refine gf_RX5_7_3 (pc := 31) dX5_put_31 ?_
      refine g_iload (pc := 34) dX5_put_34 0 rfl ?_
      refine g_iload_n (pc := 36) dX5_put_36 rfl 4 rfl ?_
      refine g_iast (pc := 37) 8 (gat_8 _ _) (gset_8 _ _ _) dX5_put_37 ?_
      refine g_nmh (fun h2 => ?_)
      exact g_sub [] rfl (gjb_X5_put_3_38 γ h2)
def f_X6_enterLot (p0 : Int32) (p1 : Int32) (p2 : Int32) (p3 : Int32) (p4 : Int32) (h : Hst) : Option (Int32 × Hst) :=
  gb (f_X3_get_7 1 h) fun x2 h1 =>
  gbv (f_X5_put_3 x2 0 p0 h1) fun h3 =>
  gbv (f_X5_put_3 x2 1 p1 h3) fun h4 =>
  gbv (f_X5_put_3 x2 2 p2 h4) fun h5 =>
  gbv (f_X5_put_3 x2 3 p3 h5) fun h6 =>
  gbv (f_X5_put_3 x2 4 p4 h6) fun h7 =>
  gbv (f_X3_add_7 1 1 h7) fun h8 =>
  (some (x2, h8))
set_option maxRecDepth 20000 in
theorem ge_X6_enterLot (γ : Gv) (p0 : Int32) (p1 : Int32) (p2 : Int32) (p3 : Int32) (p4 : Int32) (h : Hst) : G γ RX6 cX6_enterLot 7 (some .int) [] vI 2 0 0 (lv_args 0 [.ref (gad γ 0), .int p0, .int p1, .int p2, .int p3, .int p4]) [] h (f_X6_enterLot p0 p1 p2 p3 p4 h) := by
  show G γ RX6 cX6_enterLot 7 (some .int) [] vI 2 0 0 [(0, .ref (gad γ 0)), (1, .int p0), (2, .int p1), (3, .int p2), (4, .int p3), (5, .int p4)] [] h (f_X6_enterLot p0 p1 p2 p3 p4 h)
  unfold f_X6_enterLot
  refine g_aload_n (pc := 0) dX6_enterLot_0 rfl 0 rfl ?_
  refine gf_RX6_12_0 (pc := 1) dX6_enterLot_1 ?_
  refine gf_RX6_47_1 (pc := 4) dX6_enterLot_4 ?_
  refine g_iconst (pc := 7) (v := 1) dX6_enterLot_7 (by decide) ?_
  refine g_cI (pc := 8) (st := []) (fun r hr => gRunV (As := [.int 1]) 7 (ge_X3_get_7 γ 1 h) hr wv_RX6_51 rfl (Nat.le_of_ble_eq_true rfl) (gat_7 _ _) rfl rfl (Nat.le_of_ble_eq_true rfl) (Nat.le_of_ble_eq_true rfl) dX6_enterLot_8) (fun x2 h1 => ?_)
  refine g_istore (pc := 11) (lv' := [(6, .int x2), (0, .ref (gad γ 0)), (1, .int p0), (2, .int p1), (3, .int p2), (4, .int p3), (5, .int p4)]) dX6_enterLot_11 (by decide) rfl ?_
  refine g_aload_n (pc := 13) dX6_enterLot_13 rfl 1 rfl ?_
  refine gf_RX6_12_0 (pc := 14) dX6_enterLot_14 ?_
  refine gf_RX6_182_1 (pc := 17) dX6_enterLot_17 ?_
  refine g_iload (pc := 20) dX6_enterLot_20 0 rfl ?_
  refine g_iconst (pc := 22) (v := 0) dX6_enterLot_22 (by decide) ?_
  refine g_iload_n (pc := 23) dX6_enterLot_23 rfl 2 rfl ?_
  refine g_cV (pc := 24) (st := []) (fun r hr => gRunV (As := [.int x2, .int 0, .int p0]) 3 (ge_X5_put_3 γ x2 0 p0 h1) hr wv_RX6_102 rfl (Nat.le_of_ble_eq_true rfl) (gat_3 _ _) rfl rfl (Nat.le_of_ble_eq_true rfl) (Nat.le_of_ble_eq_true rfl) dX6_enterLot_24) (fun h3 => ?_)
  refine g_aload_n (pc := 27) dX6_enterLot_27 rfl 1 rfl ?_
  refine gf_RX6_12_0 (pc := 28) dX6_enterLot_28 ?_
  refine gf_RX6_182_1 (pc := 31) dX6_enterLot_31 ?_
  refine g_iload (pc := 34) dX6_enterLot_34 0 rfl ?_
  refine g_iconst (pc := 36) (v := 1) dX6_enterLot_36 (by decide) ?_
  refine g_iload_n (pc := 37) dX6_enterLot_37 rfl 3 rfl ?_
  refine g_cV (pc := 38) (st := []) (fun r hr => gRunV (As := [.int x2, .int 1, .int p1]) 3 (ge_X5_put_3 γ x2 1 p1 h3) hr wv_RX6_102 rfl (Nat.le_of_ble_eq_true rfl) (gat_3 _ _) rfl rfl (Nat.le_of_ble_eq_true rfl) (Nat.le_of_ble_eq_true rfl) dX6_enterLot_38) (fun h4 => ?_)
  refine g_aload_n (pc := 41) dX6_enterLot_41 rfl 1 rfl ?_
  refine gf_RX6_12_0 (pc := 42) dX6_enterLot_42 ?_
  refine gf_RX6_182_1 (pc := 45) dX6_enterLot_45 ?_
  refine g_iload (pc := 48) dX6_enterLot_48 0 rfl ?_
  refine g_iconst (pc := 50) (v := 2) dX6_enterLot_50 (by decide) ?_
  refine g_iload_n (pc := 51) dX6_enterLot_51 rfl 4 rfl ?_
  refine g_cV (pc := 52) (st := []) (fun r hr => gRunV (As := [.int x2, .int 2, .int p2]) 3 (ge_X5_put_3 γ x2 2 p2 h4) hr wv_RX6_102 rfl (Nat.le_of_ble_eq_true rfl) (gat_3 _ _) rfl rfl (Nat.le_of_ble_eq_true rfl) (Nat.le_of_ble_eq_true rfl) dX6_enterLot_52) (fun h5 => ?_)
  refine g_aload_n (pc := 55) dX6_enterLot_55 rfl 1 rfl ?_
  refine gf_RX6_12_0 (pc := 56) dX6_enterLot_56 ?_
  refine gf_RX6_182_1 (pc := 59) dX6_enterLot_59 ?_
  refine g_iload (pc := 62) dX6_enterLot_62 0 rfl ?_
  refine g_iconst (pc := 64) (v := 3) dX6_enterLot_64 (by decide) ?_
  refine g_iload (pc := 65) dX6_enterLot_65 5 rfl ?_
  refine g_cV (pc := 67) (st := []) (fun r hr => gRunV (As := [.int x2, .int 3, .int p3]) 3 (ge_X5_put_3 γ x2 3 p3 h5) hr wv_RX6_102 rfl (Nat.le_of_ble_eq_true rfl) (gat_3 _ _) rfl rfl (Nat.le_of_ble_eq_true rfl) (Nat.le_of_ble_eq_true rfl) dX6_enterLot_67) (fun h6 => ?_)
  refine g_aload_n (pc := 70) dX6_enterLot_70 rfl 1 rfl ?_
  refine gf_RX6_12_0 (pc := 71) dX6_enterLot_71 ?_
  refine gf_RX6_182_1 (pc := 74) dX6_enterLot_74 ?_
  refine g_iload (pc := 77) dX6_enterLot_77 0 rfl ?_
  refine g_iconst (pc := 79) (v := 4) dX6_enterLot_79 (by decide) ?_
  refine g_iload (pc := 80) dX6_enterLot_80 6 rfl ?_
  refine g_cV (pc := 82) (st := []) (fun r hr => gRunV (As := [.int x2, .int 4, .int p4]) 3 (ge_X5_put_3 γ x2 4 p4 h6) hr wv_RX6_102 rfl (Nat.le_of_ble_eq_true rfl) (gat_3 _ _) rfl rfl (Nat.le_of_ble_eq_true rfl) (Nat.le_of_ble_eq_true rfl) dX6_enterLot_82) (fun h7 => ?_)
  refine g_aload_n (pc := 85) dX6_enterLot_85 rfl 1 rfl ?_
  refine gf_RX6_12_0 (pc := 86) dX6_enterLot_86 ?_
  refine gf_RX6_47_1 (pc := 89) dX6_enterLot_89 ?_
  refine g_iconst (pc := 92) (v := 1) dX6_enterLot_92 (by decide) ?_
  refine g_iconst (pc := 93) (v := 1) dX6_enterLot_93 (by decide) ?_
  refine g_cV (pc := 94) (st := []) (fun r hr => gRunV (As := [.int 1, .int 1]) 7 (ge_X3_add_7 γ 1 1 h7) hr wv_RX6_67 rfl (Nat.le_of_ble_eq_true rfl) (gat_7 _ _) rfl rfl (Nat.le_of_ble_eq_true rfl) (Nat.le_of_ble_eq_true rfl) dX6_enterLot_94) (fun h8 => ?_)
  refine g_iload (pc := 97) dX6_enterLot_97 0 rfl ?_
  exact g_ireturn (pc := 99) (ty := .int) dX6_enterLot_99 rfl rfl rfl
def jb_X6_addLot_48   (h : Hst) : Option ((Int32 × Hst) ⊕ (Nat × Hst)) :=
  (some (.inr (1, h)))
def f_X6_addLot (p0 : Int32) (p1 : Int32) (p2 : Int32) (p3 : Int32) (p4 : Int32) (h : Hst) : Option ((Int32 × Hst) ⊕ (Nat × Hst)) :=
  (gbvx (f_X6_checkGrower p0 h) (fun h1 =>
    gb (f_X6_isVariety p1 h1) fun x3 h2 =>
    (if x3 = 0 then
      (jb_X6_addLot_48 h2)
    else
      gb (f_X6_isOutside p2 1 2000 h2) fun x5 h4 =>
      (if x5 = 0 then
        gb (f_X6_isOutside p3 0 50 h4) fun x7 h6 =>
        (if x7 = 0 then
          gb (f_X6_isOutside p4 500 1500 h6) fun x9 h8 =>
          (if x9 = 0 then
            gb (f_X3_get_7 1 h8) fun x11 h10 =>
            (if x11 < 40 then
              gbv (f_X0_save h10) fun h12 =>
              gb (f_X6_enterLot p0 p1 p2 p3 p4 h12) fun x14 h13 =>
              (some (.inl (x14, h13)))
            else
              (some (.inr (2, h10))))
          else
            (jb_X6_addLot_48 h8))
        else
          (jb_X6_addLot_48 h6))
      else
        (jb_X6_addLot_48 h4)))) (fun E h15 => some (.inr (E, h15))))
set_option maxRecDepth 20000 in
theorem gjb_X6_addLot_48 (γ : Gv)   (h : Hst) : G γ RX6 cX6_addLot 6 (some .int) [] vIX 7 0 48 [] [] h (jb_X6_addLot_48 h) := by
  unfold jb_X6_addLot_48
  exact g_throwS 1 (by decide +kernel) wcl_RX6_83 wini_1 wat_RX6_87_1 rfl (by decide +kernel : (85, "the variety, the kilos, the acidity or the truth is out of range") ∈ gstrs) (Nat.le_of_ble_eq_true rfl) (fun x hx => nomatch hx) dX6_addLot_48 dX6_addLot_51 dX6_addLot_52 dX6_addLot_54 dX6_addLot_57 (fun z hz => by cases hz; rfl)
set_option maxRecDepth 20000 in
theorem ge_X6_addLot (γ : Gv) (p0 : Int32) (p1 : Int32) (p2 : Int32) (p3 : Int32) (p4 : Int32) (h : Hst) : G γ RX6 cX6_addLot 6 (some .int) [] vIX 7 0 0 (lv_args 0 [.ref (gad γ 0), .int p0, .int p1, .int p2, .int p3, .int p4]) [] h (f_X6_addLot p0 p1 p2 p3 p4 h) := by
  show G γ RX6 cX6_addLot 6 (some .int) [] vIX 7 0 0 [(0, .ref (gad γ 0)), (1, .int p0), (2, .int p1), (3, .int p2), (4, .int p3), (5, .int p4)] [] h (f_X6_addLot p0 p1 p2 p3 p4 h)
  unfold f_X6_addLot
  refine g_aload_n (pc := 0) dX6_addLot_0 rfl 0 rfl ?_
  refine g_iload_n (pc := 1) dX6_addLot_1 rfl 1 rfl ?_
  refine g_cVX (pc := 2) (st := []) (fun r hr => gRunV (As := [.int p0]) 0 (ge_X6_checkGrower γ p0 h) hr wv_RX6_71 rfl (Nat.le_of_ble_eq_true rfl) (gat_0 _ _) rfl rfl (Nat.le_of_ble_eq_true rfl) (Nat.le_of_ble_eq_true rfl) dX6_addLot_2) (fun h1 => ?_) (fun E h15 hrun => gRun.out hrun rfl rfl (fun y hy => by cases hy; rfl) (fun x hx => nomatch hx))
  refine g_iload_n (pc := 5) dX6_addLot_5 rfl 2 rfl ?_
  refine g_cI (pc := 6) (st := []) (fun r hr => gRunS (As := [.int p1]) (ge_X6_isVariety γ p1 h1) hr wv_RX6_75 rfl (Nat.le_of_ble_eq_true rfl) rfl (Nat.le_of_ble_eq_true rfl) (Nat.le_of_ble_eq_true rfl) dX6_addLot_6) (fun x3 h2 => ?_)
  refine g_if_eq (pc := 9) (tgt := 48) dX6_addLot_9 (by decide) ?_ ?_
  · exact g_sub [] rfl (gjb_X6_addLot_48 γ h2)
  · refine g_iload_n (pc := 12) dX6_addLot_12 rfl 3 rfl ?_
    refine g_iconst (pc := 13) (v := 1) dX6_addLot_13 (by decide) ?_
    refine g_sipush (pc := 14) (v := 2000) dX6_addLot_14 (by decide) ?_
    refine g_cI (pc := 17) (st := []) (fun r hr => gRunS (As := [.int p2, .int 1, .int 2000]) (ge_X6_isOutside γ p2 1 2000 h2) hr wv_RX6_79 rfl (Nat.le_of_ble_eq_true rfl) rfl (Nat.le_of_ble_eq_true rfl) (Nat.le_of_ble_eq_true rfl) dX6_addLot_17) (fun x5 h4 => ?_)
    refine g_if_ne (pc := 20) (tgt := 48) dX6_addLot_20 (by decide) ?_ ?_
    · exact g_sub [] rfl (gjb_X6_addLot_48 γ h4)
    · refine g_iload (pc := 23) dX6_addLot_23 4 rfl ?_
      refine g_iconst (pc := 25) (v := 0) dX6_addLot_25 (by decide) ?_
      refine g_bipush (pc := 26) (v := 50) dX6_addLot_26 (by decide) ?_
      refine g_cI (pc := 28) (st := []) (fun r hr => gRunS (As := [.int p3, .int 0, .int 50]) (ge_X6_isOutside γ p3 0 50 h4) hr wv_RX6_79 rfl (Nat.le_of_ble_eq_true rfl) rfl (Nat.le_of_ble_eq_true rfl) (Nat.le_of_ble_eq_true rfl) dX6_addLot_28) (fun x7 h6 => ?_)
      refine g_if_ne (pc := 31) (tgt := 48) dX6_addLot_31 (by decide) ?_ ?_
      · exact g_sub [] rfl (gjb_X6_addLot_48 γ h6)
      · refine g_iload (pc := 34) dX6_addLot_34 5 rfl ?_
        refine g_sipush (pc := 36) (v := 500) dX6_addLot_36 (by decide) ?_
        refine g_sipush (pc := 39) (v := 1500) dX6_addLot_39 (by decide) ?_
        refine g_cI (pc := 42) (st := []) (fun r hr => gRunS (As := [.int p4, .int 500, .int 1500]) (ge_X6_isOutside γ p4 500 1500 h6) hr wv_RX6_79 rfl (Nat.le_of_ble_eq_true rfl) rfl (Nat.le_of_ble_eq_true rfl) (Nat.le_of_ble_eq_true rfl) dX6_addLot_42) (fun x9 h8 => ?_)
        refine g_if_eq (pc := 45) (tgt := 58) dX6_addLot_45 (by decide) ?_ ?_
        · refine g_aload_n (pc := 58) dX6_addLot_58 rfl 0 rfl ?_
          refine gf_RX6_12_0 (pc := 59) dX6_addLot_59 ?_
          refine gf_RX6_47_1 (pc := 62) dX6_addLot_62 ?_
          refine g_iconst (pc := 65) (v := 1) dX6_addLot_65 (by decide) ?_
          refine g_cI (pc := 66) (st := []) (fun r hr => gRunV (As := [.int 1]) 7 (ge_X3_get_7 γ 1 h8) hr wv_RX6_51 rfl (Nat.le_of_ble_eq_true rfl) (gat_7 _ _) rfl rfl (Nat.le_of_ble_eq_true rfl) (Nat.le_of_ble_eq_true rfl) dX6_addLot_66) (fun x11 h10 => ?_)
          refine g_bipush (pc := 69) (v := 40) dX6_addLot_69 (by decide) ?_
          refine g_icmp_lt (pc := 71) (tgt := 84) dX6_addLot_71 (by decide) ?_ ?_
          · refine g_aload_n (pc := 84) dX6_addLot_84 rfl 0 rfl ?_
            refine gf_RX6_12_0 (pc := 85) dX6_addLot_85 ?_
            refine g_cV (pc := 88) (st := []) (fun r hr => gRunV (As := []) 1 (ge_X0_save γ h10) hr wv_RX6_64 rfl (Nat.le_of_ble_eq_true rfl) (gat_1 _ _) rfl rfl (Nat.le_of_ble_eq_true rfl) (Nat.le_of_ble_eq_true rfl) dX6_addLot_88) (fun h12 => ?_)
            refine g_aload_n (pc := 91) dX6_addLot_91 rfl 0 rfl ?_
            refine g_iload_n (pc := 92) dX6_addLot_92 rfl 1 rfl ?_
            refine g_iload_n (pc := 93) dX6_addLot_93 rfl 2 rfl ?_
            refine g_iload_n (pc := 94) dX6_addLot_94 rfl 3 rfl ?_
            refine g_iload (pc := 95) dX6_addLot_95 4 rfl ?_
            refine g_iload (pc := 97) dX6_addLot_97 5 rfl ?_
            refine g_cI (pc := 99) (st := []) (fun r hr => gRunV (As := [.int p0, .int p1, .int p2, .int p3, .int p4]) 0 (ge_X6_enterLot γ p0 p1 p2 p3 p4 h12) hr wv_RX6_90 rfl (Nat.le_of_ble_eq_true rfl) (gat_0 _ _) rfl rfl (Nat.le_of_ble_eq_true rfl) (Nat.le_of_ble_eq_true rfl) dX6_addLot_99) (fun x14 h13 => ?_)
            exact g_ireturn (pc := 102) (ty := .int) dX6_addLot_102 rfl rfl rfl
          · exact g_throwS 2 (by decide +kernel) wcl_RX6_57 wini_2 wat_RX6_61_2 rfl (by decide +kernel : (88, "there are 40 lots") ∈ gstrs) (Nat.le_of_ble_eq_true rfl) (fun x hx => nomatch hx) dX6_addLot_74 dX6_addLot_77 dX6_addLot_78 dX6_addLot_80 dX6_addLot_83 (fun z hz => by cases hz; rfl)
        · exact g_sub [] rfl (gjb_X6_addLot_48 γ h8)
def jb_X5_put_4_38   (h : Hst) : Option (Hst) :=
  (some h)
def f_X5_put_4 (p0 : Int32) (p1 : Int32) (p2 : Int32) (h : Hst) : Option (Hst) :=
  gl ((472 + (p0 * 7)) + p1) fun x1 =>
  (if x1 < 0 then
    (jb_X5_put_4_38 h)
  else
    (if 553 ≤ x1 then
      (jb_X5_put_4_38 h)
    else
      gck x1 553 (gl (hst h 8 x1.toNatClampNeg p2) fun h2 =>
      (jb_X5_put_4_38 h2))))
set_option maxRecDepth 20000 in
theorem gjb_X5_put_4_38 (γ : Gv)   (h : Hst) : G γ RX5 cX5_put 5 none [] vV 0 0 38 [] [] h (jb_X5_put_4_38 h) := by
  unfold jb_X5_put_4_38
  exact g_return (pc := 38) dX5_put_38 rfl rfl
set_option maxRecDepth 20000 in
theorem ge_X5_put_4 (γ : Gv) (p0 : Int32) (p1 : Int32) (p2 : Int32) (h : Hst) : G γ RX5 cX5_put 5 none [] vV 0 0 0 (lv_args 0 [.ref (gad γ 4), .int p0, .int p1, .int p2]) [] h (f_X5_put_4 p0 p1 p2 h) := by
  show G γ RX5 cX5_put 5 none [] vV 0 0 0 [(0, .ref (gad γ 4)), (1, .int p0), (2, .int p1), (3, .int p2)] [] h (f_X5_put_4 p0 p1 p2 h)
  unfold f_X5_put_4
  refine g_aload_n (pc := 0) dX5_put_0 rfl 0 rfl ?_
  refine gf_RX5_13_4 (pc := 1) dX5_put_1 ?_
  refine g_iload_n (pc := 4) dX5_put_4 rfl 1 rfl ?_
  refine g_aload_n (pc := 5) dX5_put_5 rfl 0 rfl ?_
  refine gf_RX5_17_4 (pc := 6) dX5_put_6 ?_
  refine g_imul (pc := 9) dX5_put_9 ?_
  refine g_iadd (pc := 10) dX5_put_10 ?_
  refine g_iload_n (pc := 11) dX5_put_11 rfl 2 rfl ?_
  refine g_iadd (pc := 12) dX5_put_12 ?_
  refine g_nmi (fun x1 => ?_)
  refine g_istore (pc := 13) (lv' := [(4, .int x1), (0, .ref (gad γ 4)), (1, .int p0), (2, .int p1), (3, .int p2)]) dX5_put_13 (by decide) rfl ?_
  refine g_iload (pc := 15) dX5_put_15 0 rfl ?_
  refine g_if_lt (pc := 17) (tgt := 38) dX5_put_17 (by decide) ?_ ?_
  · exact g_sub [] rfl (gjb_X5_put_4_38 γ h)
  · refine g_iload (pc := 20) dX5_put_20 0 rfl ?_
    refine g_aload_n (pc := 22) dX5_put_22 rfl 1 rfl ?_
    refine gf_RX5_7_4 (pc := 23) dX5_put_23 ?_
    refine g_alen (pc := 26) (n := 0) (v := 553) 8 0 (gat_8 _ _) rfl rfl dX5_put_26 ?_
    refine g_icmp_ge (pc := 27) (tgt := 38) dX5_put_27 (by decide) ?_ ?_
    · exact g_sub [] rfl (gjb_X5_put_4_38 γ h)
    · refine g_aload_n (pc := 30) dX5_put_30 rfl 1 rfl ?_
      refine gf_RX5_7_4 (pc := 31) dX5_put_31 ?_
      refine g_iload (pc := 34) dX5_put_34 0 rfl ?_
      refine g_iload_n (pc := 36) dX5_put_36 rfl 4 rfl ?_
      refine g_iast (pc := 37) 8 (gat_8 _ _) (gset_8 _ _ _) dX5_put_37 ?_
      refine g_nmh (fun h2 => ?_)
      exact g_sub [] rfl (gjb_X5_put_4_38 γ h2)
def f_X6_addTank (p0 : Int32) (h : Hst) : Option ((Int32 × Hst) ⊕ (Nat × Hst)) :=
  gb (f_X6_isOutside p0 100 20000 h) fun x2 h1 =>
  (if x2 = 0 then
    gb (f_X3_get_7 2 h1) fun x4 h3 =>
    (if x4 < 6 then
      gbv (f_X0_save h3) fun h5 =>
      gbv (f_X5_put_4 x4 0 p0 h5) fun h6 =>
      gbv (f_X3_add_7 2 1 h6) fun h7 =>
      (some (.inl (x4, h7)))
    else
      (some (.inr (2, h3))))
  else
    (some (.inr (1, h1))))
set_option maxRecDepth 20000 in
theorem ge_X6_addTank (γ : Gv) (p0 : Int32) (h : Hst) : G γ RX6 cX6_addTank 3 (some .int) [] vIX 6 0 0 (lv_args 0 [.ref (gad γ 0), .int p0]) [] h (f_X6_addTank p0 h) := by
  show G γ RX6 cX6_addTank 3 (some .int) [] vIX 6 0 0 [(0, .ref (gad γ 0)), (1, .int p0)] [] h (f_X6_addTank p0 h)
  unfold f_X6_addTank
  refine g_iload_n (pc := 0) dX6_addTank_0 rfl 1 rfl ?_
  refine g_bipush (pc := 1) (v := 100) dX6_addTank_1 (by decide) ?_
  refine g_sipush (pc := 3) (v := 20000) dX6_addTank_3 (by decide) ?_
  refine g_cI (pc := 6) (st := []) (fun r hr => gRunS (As := [.int p0, .int 100, .int 20000]) (ge_X6_isOutside γ p0 100 20000 h) hr wv_RX6_79 rfl (Nat.le_of_ble_eq_true rfl) rfl (Nat.le_of_ble_eq_true rfl) (Nat.le_of_ble_eq_true rfl) dX6_addTank_6) (fun x2 h1 => ?_)
  refine g_if_eq (pc := 9) (tgt := 22) dX6_addTank_9 (by decide) ?_ ?_
  · refine g_aload_n (pc := 22) dX6_addTank_22 rfl 0 rfl ?_
    refine gf_RX6_12_0 (pc := 23) dX6_addTank_23 ?_
    refine gf_RX6_47_1 (pc := 26) dX6_addTank_26 ?_
    refine g_iconst (pc := 29) (v := 2) dX6_addTank_29 (by decide) ?_
    refine g_cI (pc := 30) (st := []) (fun r hr => gRunV (As := [.int 2]) 7 (ge_X3_get_7 γ 2 h1) hr wv_RX6_51 rfl (Nat.le_of_ble_eq_true rfl) (gat_7 _ _) rfl rfl (Nat.le_of_ble_eq_true rfl) (Nat.le_of_ble_eq_true rfl) dX6_addTank_30) (fun x4 h3 => ?_)
    refine g_istore_n (pc := 33) (lv' := [(2, .int x4), (0, .ref (gad γ 0)), (1, .int p0)]) dX6_addTank_33 rfl (by decide) rfl ?_
    refine g_iload_n (pc := 34) dX6_addTank_34 rfl 0 rfl ?_
    refine g_bipush (pc := 35) (v := 6) dX6_addTank_35 (by decide) ?_
    refine g_icmp_lt (pc := 37) (tgt := 50) dX6_addTank_37 (by decide) ?_ ?_
    · refine g_aload_n (pc := 50) dX6_addTank_50 rfl 1 rfl ?_
      refine gf_RX6_12_0 (pc := 51) dX6_addTank_51 ?_
      refine g_cV (pc := 54) (st := []) (fun r hr => gRunV (As := []) 1 (ge_X0_save γ h3) hr wv_RX6_64 rfl (Nat.le_of_ble_eq_true rfl) (gat_1 _ _) rfl rfl (Nat.le_of_ble_eq_true rfl) (Nat.le_of_ble_eq_true rfl) dX6_addTank_54) (fun h5 => ?_)
      refine g_aload_n (pc := 57) dX6_addTank_57 rfl 1 rfl ?_
      refine gf_RX6_12_0 (pc := 58) dX6_addTank_58 ?_
      refine gf_RX6_98_1 (pc := 61) dX6_addTank_61 ?_
      refine g_iload_n (pc := 64) dX6_addTank_64 rfl 0 rfl ?_
      refine g_iconst (pc := 65) (v := 0) dX6_addTank_65 (by decide) ?_
      refine g_iload_n (pc := 66) dX6_addTank_66 rfl 2 rfl ?_
      refine g_cV (pc := 67) (st := []) (fun r hr => gRunV (As := [.int x4, .int 0, .int p0]) 4 (ge_X5_put_4 γ x4 0 p0 h5) hr wv_RX6_102 rfl (Nat.le_of_ble_eq_true rfl) (gat_4 _ _) rfl rfl (Nat.le_of_ble_eq_true rfl) (Nat.le_of_ble_eq_true rfl) dX6_addTank_67) (fun h6 => ?_)
      refine g_aload_n (pc := 70) dX6_addTank_70 rfl 1 rfl ?_
      refine gf_RX6_12_0 (pc := 71) dX6_addTank_71 ?_
      refine gf_RX6_47_1 (pc := 74) dX6_addTank_74 ?_
      refine g_iconst (pc := 77) (v := 2) dX6_addTank_77 (by decide) ?_
      refine g_iconst (pc := 78) (v := 1) dX6_addTank_78 (by decide) ?_
      refine g_cV (pc := 79) (st := []) (fun r hr => gRunV (As := [.int 2, .int 1]) 7 (ge_X3_add_7 γ 2 1 h6) hr wv_RX6_67 rfl (Nat.le_of_ble_eq_true rfl) (gat_7 _ _) rfl rfl (Nat.le_of_ble_eq_true rfl) (Nat.le_of_ble_eq_true rfl) dX6_addTank_79) (fun h7 => ?_)
      refine g_iload_n (pc := 82) dX6_addTank_82 rfl 0 rfl ?_
      exact g_ireturn (pc := 83) (ty := .int) dX6_addTank_83 rfl rfl rfl
    · exact g_throwS 2 (by decide +kernel) wcl_RX6_57 wini_2 wat_RX6_61_2 rfl (by decide +kernel : (96, "there are 6 tanks") ∈ gstrs) (Nat.le_of_ble_eq_true rfl) (fun x hx => nomatch hx) dX6_addTank_40 dX6_addTank_43 dX6_addTank_44 dX6_addTank_46 dX6_addTank_49 (fun z hz => by cases hz; rfl)
  · exact g_throwS 1 (by decide +kernel) wcl_RX6_83 wini_1 wat_RX6_87_1 rfl (by decide +kernel : (94, "the size is not 100 to 20000") ∈ gstrs) (Nat.le_of_ble_eq_true rfl) (fun x hx => nomatch hx) dX6_addTank_12 dX6_addTank_15 dX6_addTank_16 dX6_addTank_18 dX6_addTank_21 (fun z hz => by cases hz; rfl)
def f_X6_checkVariety (p0 : Int32) (h : Hst) : Option ((Hst) ⊕ (Nat × Hst)) :=
  gb (f_X6_isVariety p0 h) fun x2 h1 =>
  (if x2 = 0 then
    (some (.inr (0, h1)))
  else
    (some (.inl h1)))
set_option maxRecDepth 20000 in
theorem ge_X6_checkVariety (γ : Gv) (p0 : Int32) (h : Hst) : G γ RX6 cX6_checkVariety 1 none [] vVX 6 0 0 (lv_args 0 [.int p0]) [] h (f_X6_checkVariety p0 h) := by
  show G γ RX6 cX6_checkVariety 1 none [] vVX 6 0 0 [(0, .int p0)] [] h (f_X6_checkVariety p0 h)
  unfold f_X6_checkVariety
  refine g_iload_n (pc := 0) dX6_checkVariety_0 rfl 0 rfl ?_
  refine g_cI (pc := 1) (st := []) (fun r hr => gRunS (As := [.int p0]) (ge_X6_isVariety γ p0 h) hr wv_RX6_75 rfl (Nat.le_of_ble_eq_true rfl) rfl (Nat.le_of_ble_eq_true rfl) (Nat.le_of_ble_eq_true rfl) dX6_checkVariety_1) (fun x2 h1 => ?_)
  refine g_if_ne (pc := 4) (tgt := 18) dX6_checkVariety_4 (by decide) ?_ ?_
  · exact g_return (pc := 18) dX6_checkVariety_18 rfl rfl
  · exact g_throwSW 0 (by decide +kernel) wcl_RX6_122 wini_0 wat_RX6_126_0 rfl (by decide +kernel : (311, "there is no such variety") ∈ gstrs) (Nat.le_of_ble_eq_true rfl) (fun x hx => nomatch hx) dX6_checkVariety_7 dX6_checkVariety_10 dX6_checkVariety_11 dX6_checkVariety_14 dX6_checkVariety_17 (fun z hz => by cases hz; rfl)
def jb_X5_get_5_37  (s0 : Int32) (h : Hst) : Option (Int32 × Hst) :=
  (some (s0, h))
def jb_X5_get_5_36   (h : Hst) : Option (Int32 × Hst) :=
  (jb_X5_get_5_37 0 h)
def f_X5_get_5 (p0 : Int32) (p1 : Int32) (h : Hst) : Option (Int32 × Hst) :=
  gl ((514 + (p0 * 5)) + p1) fun x1 =>
  (if x1 < 0 then
    (jb_X5_get_5_36 h)
  else
    (if 553 ≤ x1 then
      (jb_X5_get_5_36 h)
    else
      gck x1 553 ((jb_X5_get_5_37 (h.1 8 x1.toNatClampNeg) h))))
set_option maxRecDepth 20000 in
theorem gjb_X5_get_5_37 (γ : Gv)  (s0 : Int32) (h : Hst) : G γ RX5 cX5_get 4 (some .int) [] vI 0 0 37 [] [.int s0] h (jb_X5_get_5_37 s0 h) := by
  unfold jb_X5_get_5_37
  exact g_ireturn (pc := 37) (ty := .int) dX5_get_37 rfl rfl rfl
set_option maxRecDepth 20000 in
theorem gjb_X5_get_5_36 (γ : Gv)   (h : Hst) : G γ RX5 cX5_get 4 (some .int) [] vI 0 0 36 [] [] h (jb_X5_get_5_36 h) := by
  unfold jb_X5_get_5_36
  refine g_iconst (pc := 36) (v := 0) dX5_get_36 (by decide) ?_
  exact gjb_X5_get_5_37 γ 0 h
set_option maxRecDepth 20000 in
theorem ge_X5_get_5 (γ : Gv) (p0 : Int32) (p1 : Int32) (h : Hst) : G γ RX5 cX5_get 4 (some .int) [] vI 0 0 0 (lv_args 0 [.ref (gad γ 5), .int p0, .int p1]) [] h (f_X5_get_5 p0 p1 h) := by
  show G γ RX5 cX5_get 4 (some .int) [] vI 0 0 0 [(0, .ref (gad γ 5)), (1, .int p0), (2, .int p1)] [] h (f_X5_get_5 p0 p1 h)
  unfold f_X5_get_5
  refine g_aload_n (pc := 0) dX5_get_0 rfl 0 rfl ?_
  refine gf_RX5_13_5 (pc := 1) dX5_get_1 ?_
  refine g_iload_n (pc := 4) dX5_get_4 rfl 1 rfl ?_
  refine g_aload_n (pc := 5) dX5_get_5 rfl 0 rfl ?_
  refine gf_RX5_17_5 (pc := 6) dX5_get_6 ?_
  refine g_imul (pc := 9) dX5_get_9 ?_
  refine g_iadd (pc := 10) dX5_get_10 ?_
  refine g_iload_n (pc := 11) dX5_get_11 rfl 2 rfl ?_
  refine g_iadd (pc := 12) dX5_get_12 ?_
  refine g_nmi (fun x1 => ?_)
  refine g_istore_n (pc := 13) (lv' := [(3, .int x1), (0, .ref (gad γ 5)), (1, .int p0), (2, .int p1)]) dX5_get_13 rfl (by decide) rfl ?_
  refine g_iload_n (pc := 14) dX5_get_14 rfl 0 rfl ?_
  refine g_if_lt (pc := 15) (tgt := 36) dX5_get_15 (by decide) ?_ ?_
  · exact g_sub [] rfl (gjb_X5_get_5_36 γ h)
  · refine g_iload_n (pc := 18) dX5_get_18 rfl 0 rfl ?_
    refine g_aload_n (pc := 19) dX5_get_19 rfl 1 rfl ?_
    refine gf_RX5_7_5 (pc := 20) dX5_get_20 ?_
    refine g_alen (pc := 23) (n := 0) (v := 553) 8 0 (gat_8 _ _) rfl rfl dX5_get_23 ?_
    refine g_icmp_ge (pc := 24) (tgt := 36) dX5_get_24 (by decide) ?_ ?_
    · exact g_sub [] rfl (gjb_X5_get_5_36 γ h)
    · refine g_aload_n (pc := 27) dX5_get_27 rfl 1 rfl ?_
      refine gf_RX5_7_5 (pc := 28) dX5_get_28 ?_
      refine g_iload_n (pc := 31) dX5_get_31 rfl 0 rfl ?_
      refine g_iald (pc := 32) 8 (gat_8 _ _) dX5_get_32 ?_
      refine g_goto (pc := 33) (tgt := 37) dX5_get_33 (by decide) ?_
      exact g_sub [] rfl (gjb_X5_get_5_37 γ (h.1 8 x1.toNatClampNeg) h)
def jb_X5_put_5_38   (h : Hst) : Option (Hst) :=
  (some h)
def f_X5_put_5 (p0 : Int32) (p1 : Int32) (p2 : Int32) (h : Hst) : Option (Hst) :=
  gl ((514 + (p0 * 5)) + p1) fun x1 =>
  (if x1 < 0 then
    (jb_X5_put_5_38 h)
  else
    (if 553 ≤ x1 then
      (jb_X5_put_5_38 h)
    else
      gck x1 553 (gl (hst h 8 x1.toNatClampNeg p2) fun h2 =>
      (jb_X5_put_5_38 h2))))
set_option maxRecDepth 20000 in
theorem gjb_X5_put_5_38 (γ : Gv)   (h : Hst) : G γ RX5 cX5_put 5 none [] vV 0 0 38 [] [] h (jb_X5_put_5_38 h) := by
  unfold jb_X5_put_5_38
  exact g_return (pc := 38) dX5_put_38 rfl rfl
set_option maxRecDepth 20000 in
theorem ge_X5_put_5 (γ : Gv) (p0 : Int32) (p1 : Int32) (p2 : Int32) (h : Hst) : G γ RX5 cX5_put 5 none [] vV 0 0 0 (lv_args 0 [.ref (gad γ 5), .int p0, .int p1, .int p2]) [] h (f_X5_put_5 p0 p1 p2 h) := by
  show G γ RX5 cX5_put 5 none [] vV 0 0 0 [(0, .ref (gad γ 5)), (1, .int p0), (2, .int p1), (3, .int p2)] [] h (f_X5_put_5 p0 p1 p2 h)
  unfold f_X5_put_5
  refine g_aload_n (pc := 0) dX5_put_0 rfl 0 rfl ?_
  refine gf_RX5_13_5 (pc := 1) dX5_put_1 ?_
  refine g_iload_n (pc := 4) dX5_put_4 rfl 1 rfl ?_
  refine g_aload_n (pc := 5) dX5_put_5 rfl 0 rfl ?_
  refine gf_RX5_17_5 (pc := 6) dX5_put_6 ?_
  refine g_imul (pc := 9) dX5_put_9 ?_
  refine g_iadd (pc := 10) dX5_put_10 ?_
  refine g_iload_n (pc := 11) dX5_put_11 rfl 2 rfl ?_
  refine g_iadd (pc := 12) dX5_put_12 ?_
  refine g_nmi (fun x1 => ?_)
  refine g_istore (pc := 13) (lv' := [(4, .int x1), (0, .ref (gad γ 5)), (1, .int p0), (2, .int p1), (3, .int p2)]) dX5_put_13 (by decide) rfl ?_
  refine g_iload (pc := 15) dX5_put_15 0 rfl ?_
  refine g_if_lt (pc := 17) (tgt := 38) dX5_put_17 (by decide) ?_ ?_
  · exact g_sub [] rfl (gjb_X5_put_5_38 γ h)
  · refine g_iload (pc := 20) dX5_put_20 0 rfl ?_
    refine g_aload_n (pc := 22) dX5_put_22 rfl 1 rfl ?_
    refine gf_RX5_7_5 (pc := 23) dX5_put_23 ?_
    refine g_alen (pc := 26) (n := 0) (v := 553) 8 0 (gat_8 _ _) rfl rfl dX5_put_26 ?_
    refine g_icmp_ge (pc := 27) (tgt := 38) dX5_put_27 (by decide) ?_ ?_
    · exact g_sub [] rfl (gjb_X5_put_5_38 γ h)
    · refine g_aload_n (pc := 30) dX5_put_30 rfl 1 rfl ?_
      refine gf_RX5_7_5 (pc := 31) dX5_put_31 ?_
      refine g_iload (pc := 34) dX5_put_34 0 rfl ?_
      refine g_iload_n (pc := 36) dX5_put_36 rfl 4 rfl ?_
      refine g_iast (pc := 37) 8 (gat_8 _ _) (gset_8 _ _ _) dX5_put_37 ?_
      refine g_nmh (fun h2 => ?_)
      exact g_sub [] rfl (gjb_X5_put_5_38 γ h2)
def f_X6_setYield (p0 : Int32) (p1 : Int32) (h : Hst) : Option ((Int32 × Hst) ⊕ (Nat × Hst)) :=
  (gbvx (f_X6_checkVariety p0 h) (fun h1 =>
    gb (f_X6_isOutside p1 50 400 h1) fun x3 h2 =>
    (if x3 = 0 then
      gb (f_X5_get_5 p0 0 h2) fun x5 h4 =>
      gbv (f_X0_save h4) fun h6 =>
      gbv (f_X5_put_5 p0 0 p1 h6) fun h7 =>
      (some (.inl (x5, h7)))
    else
      (some (.inr (1, h2))))) (fun E h8 => some (.inr (E, h8))))
set_option maxRecDepth 20000 in
theorem ge_X6_setYield (γ : Gv) (p0 : Int32) (p1 : Int32) (h : Hst) : G γ RX6 cX6_setYield 4 (some .int) [] vIX 7 0 0 (lv_args 0 [.ref (gad γ 0), .int p0, .int p1]) [] h (f_X6_setYield p0 p1 h) := by
  show G γ RX6 cX6_setYield 4 (some .int) [] vIX 7 0 0 [(0, .ref (gad γ 0)), (1, .int p0), (2, .int p1)] [] h (f_X6_setYield p0 p1 h)
  unfold f_X6_setYield
  refine g_iload_n (pc := 0) dX6_setYield_0 rfl 1 rfl ?_
  refine g_cVX (pc := 1) (st := []) (fun r hr => gRunS (As := [.int p0]) (ge_X6_checkVariety γ p0 h) hr wv_RX6_108 rfl (Nat.le_of_ble_eq_true rfl) rfl (Nat.le_of_ble_eq_true rfl) (Nat.le_of_ble_eq_true rfl) dX6_setYield_1) (fun h1 => ?_) (fun E h8 hrun => gRun.out hrun rfl rfl (fun y hy => by cases hy; rfl) (fun x hx => nomatch hx))
  refine g_iload_n (pc := 4) dX6_setYield_4 rfl 2 rfl ?_
  refine g_bipush (pc := 5) (v := 50) dX6_setYield_5 (by decide) ?_
  refine g_sipush (pc := 7) (v := 400) dX6_setYield_7 (by decide) ?_
  refine g_cI (pc := 10) (st := []) (fun r hr => gRunS (As := [.int p1, .int 50, .int 400]) (ge_X6_isOutside γ p1 50 400 h1) hr wv_RX6_79 rfl (Nat.le_of_ble_eq_true rfl) rfl (Nat.le_of_ble_eq_true rfl) (Nat.le_of_ble_eq_true rfl) dX6_setYield_10) (fun x3 h2 => ?_)
  refine g_if_eq (pc := 13) (tgt := 26) dX6_setYield_13 (by decide) ?_ ?_
  · refine g_aload_n (pc := 26) dX6_setYield_26 rfl 0 rfl ?_
    refine gf_RX6_12_0 (pc := 27) dX6_setYield_27 ?_
    refine gf_RX6_113_1 (pc := 30) dX6_setYield_30 ?_
    refine g_iload_n (pc := 33) dX6_setYield_33 rfl 1 rfl ?_
    refine g_iconst (pc := 34) (v := 0) dX6_setYield_34 (by decide) ?_
    refine g_cI (pc := 35) (st := []) (fun r hr => gRunV (As := [.int p0, .int 0]) 5 (ge_X5_get_5 γ p0 0 h2) hr wv_RX6_116 rfl (Nat.le_of_ble_eq_true rfl) (gat_5 _ _) rfl rfl (Nat.le_of_ble_eq_true rfl) (Nat.le_of_ble_eq_true rfl) dX6_setYield_35) (fun x5 h4 => ?_)
    refine g_istore_n (pc := 38) (lv' := [(3, .int x5), (0, .ref (gad γ 0)), (1, .int p0), (2, .int p1)]) dX6_setYield_38 rfl (by decide) rfl ?_
    refine g_aload_n (pc := 39) dX6_setYield_39 rfl 1 rfl ?_
    refine gf_RX6_12_0 (pc := 40) dX6_setYield_40 ?_
    refine g_cV (pc := 43) (st := []) (fun r hr => gRunV (As := []) 1 (ge_X0_save γ h4) hr wv_RX6_64 rfl (Nat.le_of_ble_eq_true rfl) (gat_1 _ _) rfl rfl (Nat.le_of_ble_eq_true rfl) (Nat.le_of_ble_eq_true rfl) dX6_setYield_43) (fun h6 => ?_)
    refine g_aload_n (pc := 46) dX6_setYield_46 rfl 1 rfl ?_
    refine gf_RX6_12_0 (pc := 47) dX6_setYield_47 ?_
    refine gf_RX6_113_1 (pc := 50) dX6_setYield_50 ?_
    refine g_iload_n (pc := 53) dX6_setYield_53 rfl 2 rfl ?_
    refine g_iconst (pc := 54) (v := 0) dX6_setYield_54 (by decide) ?_
    refine g_iload_n (pc := 55) dX6_setYield_55 rfl 3 rfl ?_
    refine g_cV (pc := 56) (st := []) (fun r hr => gRunV (As := [.int p0, .int 0, .int p1]) 5 (ge_X5_put_5 γ p0 0 p1 h6) hr wv_RX6_102 rfl (Nat.le_of_ble_eq_true rfl) (gat_5 _ _) rfl rfl (Nat.le_of_ble_eq_true rfl) (Nat.le_of_ble_eq_true rfl) dX6_setYield_56) (fun h7 => ?_)
    refine g_iload_n (pc := 59) dX6_setYield_59 rfl 0 rfl ?_
    exact g_ireturn (pc := 60) (ty := .int) dX6_setYield_60 rfl rfl rfl
  · exact g_throwS 1 (by decide +kernel) wcl_RX6_83 wini_1 wat_RX6_87_1 rfl (by decide +kernel : (111, "the yield is not 50 to 400") ∈ gstrs) (Nat.le_of_ble_eq_true rfl) (fun x hx => nomatch hx) dX6_setYield_16 dX6_setYield_19 dX6_setYield_20 dX6_setYield_22 dX6_setYield_25 (fun z hz => by cases hz; rfl)
def jb_X6_isSetting_15  (s0 : Int32) (h : Hst) : Option (Int32 × Hst) :=
  (gzr s0 (some (s0, h)))
def jb_X6_isSetting_14   (h : Hst) : Option (Int32 × Hst) :=
  (jb_X6_isSetting_15 0 h)
def f_X6_isSetting (p0 : Int32) (h : Hst) : Option (Int32 × Hst) :=
  (if p0 < 0 then
    (jb_X6_isSetting_14 h)
  else
    (if 7 ≤ p0 then
      (jb_X6_isSetting_14 h)
    else
      (jb_X6_isSetting_15 1 h)))
set_option maxRecDepth 20000 in
theorem gjb_X6_isSetting_15 (γ : Gv)  (s0 : Int32) (h : Hst) : G γ RX6 cX6_isSetting 1 (some .boolean) [] vI 0 0 15 [] [.int s0] h (jb_X6_isSetting_15 s0 h) := by
  unfold jb_X6_isSetting_15
  exact g_zreturn (pc := 15) dX6_isSetting_15 rfl rfl
set_option maxRecDepth 20000 in
theorem gjb_X6_isSetting_14 (γ : Gv)   (h : Hst) : G γ RX6 cX6_isSetting 1 (some .boolean) [] vI 0 0 14 [] [] h (jb_X6_isSetting_14 h) := by
  unfold jb_X6_isSetting_14
  refine g_iconst (pc := 14) (v := 0) dX6_isSetting_14 (by decide) ?_
  exact gjb_X6_isSetting_15 γ 0 h
set_option maxRecDepth 20000 in
theorem ge_X6_isSetting (γ : Gv) (p0 : Int32) (h : Hst) : G γ RX6 cX6_isSetting 1 (some .boolean) [] vI 0 0 0 (lv_args 0 [.int p0]) [] h (f_X6_isSetting p0 h) := by
  show G γ RX6 cX6_isSetting 1 (some .boolean) [] vI 0 0 0 [(0, .int p0)] [] h (f_X6_isSetting p0 h)
  unfold f_X6_isSetting
  refine g_iload_n (pc := 0) dX6_isSetting_0 rfl 0 rfl ?_
  refine g_if_lt (pc := 1) (tgt := 14) dX6_isSetting_1 (by decide) ?_ ?_
  · exact g_sub [] rfl (gjb_X6_isSetting_14 γ h)
  · refine g_iload_n (pc := 4) dX6_isSetting_4 rfl 0 rfl ?_
    refine g_bipush (pc := 5) (v := 7) dX6_isSetting_5 (by decide) ?_
    refine g_icmp_ge (pc := 7) (tgt := 14) dX6_isSetting_7 (by decide) ?_ ?_
    · exact g_sub [] rfl (gjb_X6_isSetting_14 γ h)
    · refine g_iconst (pc := 10) (v := 1) dX6_isSetting_10 (by decide) ?_
      refine g_goto (pc := 11) (tgt := 15) dX6_isSetting_11 (by decide) ?_
      exact g_sub [] rfl (gjb_X6_isSetting_15 γ 1 h)
def jb_X6_isSettingValue_43  (s0 : Int32) (h : Hst) : Option (Int32 × Hst) :=
  (gzr s0 (some (s0, h)))
def jb_X6_isSettingValue_42   (h : Hst) : Option (Int32 × Hst) :=
  (jb_X6_isSettingValue_43 0 h)
def f_X6_isSettingValue (p0 : Int32) (p1 : Int32) (h : Hst) : Option (Int32 × Hst) :=
  (if p0 < 0 then
    (jb_X6_isSettingValue_42 h)
  else
    (if 7 ≤ p0 then
      (jb_X6_isSettingValue_42 h)
    else
      (if 7 ≤ p0 then
        (jb_X6_isSettingValue_42 h)
      else
        gck p0 7 ((if p1 < (([0, 500, 0, 0, 0, 0, 0] : List Int32).getD p0.toNatClampNeg 0) then
          (jb_X6_isSettingValue_42 h)
        else
          gck p0 7 ((if (([50, 1000, 1000, 50, 500, 2, 500] : List Int32).getD p0.toNatClampNeg 0) < p1 then
            (jb_X6_isSettingValue_42 h)
          else
            (jb_X6_isSettingValue_43 1 h))))))))
set_option maxRecDepth 20000 in
theorem gjb_X6_isSettingValue_43 (γ : Gv)  (s0 : Int32) (h : Hst) : G γ RX6 cX6_isSettingValue 2 (some .boolean) [] vI 0 0 43 [] [.int s0] h (jb_X6_isSettingValue_43 s0 h) := by
  unfold jb_X6_isSettingValue_43
  exact g_zreturn (pc := 43) dX6_isSettingValue_43 rfl rfl
set_option maxRecDepth 20000 in
theorem gjb_X6_isSettingValue_42 (γ : Gv)   (h : Hst) : G γ RX6 cX6_isSettingValue 2 (some .boolean) [] vI 0 0 42 [] [] h (jb_X6_isSettingValue_42 h) := by
  unfold jb_X6_isSettingValue_42
  refine g_iconst (pc := 42) (v := 0) dX6_isSettingValue_42 (by decide) ?_
  exact gjb_X6_isSettingValue_43 γ 0 h
set_option maxRecDepth 20000 in
theorem ge_X6_isSettingValue (γ : Gv) (p0 : Int32) (p1 : Int32) (h : Hst) : G γ RX6 cX6_isSettingValue 2 (some .boolean) [] vI 0 0 0 (lv_args 0 [.int p0, .int p1]) [] h (f_X6_isSettingValue p0 p1 h) := by
  show G γ RX6 cX6_isSettingValue 2 (some .boolean) [] vI 0 0 0 [(0, .int p0), (1, .int p1)] [] h (f_X6_isSettingValue p0 p1 h)
  unfold f_X6_isSettingValue
  refine g_iload_n (pc := 0) dX6_isSettingValue_0 rfl 0 rfl ?_
  refine g_if_lt (pc := 1) (tgt := 42) dX6_isSettingValue_1 (by decide) ?_ ?_
  · exact g_sub [] rfl (gjb_X6_isSettingValue_42 γ h)
  · refine g_iload_n (pc := 4) dX6_isSettingValue_4 rfl 0 rfl ?_
    refine g_gets_LEAST (pc := 5) wk_RX6_371 dX6_isSettingValue_5 ?_
    refine g_tlen_LEAST (pc := 8) dX6_isSettingValue_8 ?_
    refine g_icmp_ge (pc := 9) (tgt := 42) dX6_isSettingValue_9 (by decide) ?_ ?_
    · exact g_sub [] rfl (gjb_X6_isSettingValue_42 γ h)
    · refine g_iload_n (pc := 12) dX6_isSettingValue_12 rfl 0 rfl ?_
      refine g_gets_MOST (pc := 13) wk_RX6_374 dX6_isSettingValue_13 ?_
      refine g_tlen_MOST (pc := 16) dX6_isSettingValue_16 ?_
      refine g_icmp_ge (pc := 17) (tgt := 42) dX6_isSettingValue_17 (by decide) ?_ ?_
      · exact g_sub [] rfl (gjb_X6_isSettingValue_42 γ h)
      · refine g_iload_n (pc := 20) dX6_isSettingValue_20 rfl 1 rfl ?_
        refine g_gets_LEAST (pc := 21) wk_RX6_371 dX6_isSettingValue_21 ?_
        refine g_iload_n (pc := 24) dX6_isSettingValue_24 rfl 0 rfl ?_
        refine g_ti_LEAST (pc := 25) dX6_isSettingValue_25 ?_
        refine g_icmp_lt (pc := 26) (tgt := 42) dX6_isSettingValue_26 (by decide) ?_ ?_
        · exact g_sub [] rfl (gjb_X6_isSettingValue_42 γ h)
        · refine g_iload_n (pc := 29) dX6_isSettingValue_29 rfl 1 rfl ?_
          refine g_gets_MOST (pc := 30) wk_RX6_374 dX6_isSettingValue_30 ?_
          refine g_iload_n (pc := 33) dX6_isSettingValue_33 rfl 0 rfl ?_
          refine g_ti_MOST (pc := 34) dX6_isSettingValue_34 ?_
          refine g_icmp_gt (pc := 35) (tgt := 42) dX6_isSettingValue_35 (by decide) ?_ ?_
          · exact g_sub [] rfl (gjb_X6_isSettingValue_42 γ h)
          · refine g_iconst (pc := 38) (v := 1) dX6_isSettingValue_38 (by decide) ?_
            refine g_goto (pc := 39) (tgt := 43) dX6_isSettingValue_39 (by decide) ?_
            exact g_sub [] rfl (gjb_X6_isSettingValue_43 γ 1 h)
def jb_X3_get_6_30  (s0 : Int32) (h : Hst) : Option (Int32 × Hst) :=
  (some (s0, h))
def jb_X3_get_6_29   (h : Hst) : Option (Int32 × Hst) :=
  (jb_X3_get_6_30 0 h)
def f_X3_get_6 (p0 : Int32) (h : Hst) : Option (Int32 × Hst) :=
  gl (539 + p0) fun x1 =>
  (if x1 < 0 then
    (jb_X3_get_6_29 h)
  else
    (if 553 ≤ x1 then
      (jb_X3_get_6_29 h)
    else
      gck x1 553 ((jb_X3_get_6_30 (h.1 8 x1.toNatClampNeg) h))))
set_option maxRecDepth 20000 in
theorem gjb_X3_get_6_30 (γ : Gv)  (s0 : Int32) (h : Hst) : G γ RX3 cX3_get 3 (some .int) [] vI 0 0 30 [] [.int s0] h (jb_X3_get_6_30 s0 h) := by
  unfold jb_X3_get_6_30
  exact g_ireturn (pc := 30) (ty := .int) dX3_get_30 rfl rfl rfl
set_option maxRecDepth 20000 in
theorem gjb_X3_get_6_29 (γ : Gv)   (h : Hst) : G γ RX3 cX3_get 3 (some .int) [] vI 0 0 29 [] [] h (jb_X3_get_6_29 h) := by
  unfold jb_X3_get_6_29
  refine g_iconst (pc := 29) (v := 0) dX3_get_29 (by decide) ?_
  exact gjb_X3_get_6_30 γ 0 h
set_option maxRecDepth 20000 in
theorem ge_X3_get_6 (γ : Gv) (p0 : Int32) (h : Hst) : G γ RX3 cX3_get 3 (some .int) [] vI 0 0 0 (lv_args 0 [.ref (gad γ 6), .int p0]) [] h (f_X3_get_6 p0 h) := by
  show G γ RX3 cX3_get 3 (some .int) [] vI 0 0 0 [(0, .ref (gad γ 6)), (1, .int p0)] [] h (f_X3_get_6 p0 h)
  unfold f_X3_get_6
  refine g_aload_n (pc := 0) dX3_get_0 rfl 0 rfl ?_
  refine gf_RX3_13_6 (pc := 1) dX3_get_1 ?_
  refine g_iload_n (pc := 4) dX3_get_4 rfl 1 rfl ?_
  refine g_iadd (pc := 5) dX3_get_5 ?_
  refine g_nmi (fun x1 => ?_)
  refine g_istore_n (pc := 6) (lv' := [(2, .int x1), (0, .ref (gad γ 6)), (1, .int p0)]) dX3_get_6 rfl (by decide) rfl ?_
  refine g_iload_n (pc := 7) dX3_get_7 rfl 0 rfl ?_
  refine g_if_lt (pc := 8) (tgt := 29) dX3_get_8 (by decide) ?_ ?_
  · exact g_sub [] rfl (gjb_X3_get_6_29 γ h)
  · refine g_iload_n (pc := 11) dX3_get_11 rfl 0 rfl ?_
    refine g_aload_n (pc := 12) dX3_get_12 rfl 1 rfl ?_
    refine gf_RX3_7_6 (pc := 13) dX3_get_13 ?_
    refine g_alen (pc := 16) (n := 0) (v := 553) 8 0 (gat_8 _ _) rfl rfl dX3_get_16 ?_
    refine g_icmp_ge (pc := 17) (tgt := 29) dX3_get_17 (by decide) ?_ ?_
    · exact g_sub [] rfl (gjb_X3_get_6_29 γ h)
    · refine g_aload_n (pc := 20) dX3_get_20 rfl 1 rfl ?_
      refine gf_RX3_7_6 (pc := 21) dX3_get_21 ?_
      refine g_iload_n (pc := 24) dX3_get_24 rfl 0 rfl ?_
      refine g_iald (pc := 25) 8 (gat_8 _ _) dX3_get_25 ?_
      refine g_goto (pc := 26) (tgt := 30) dX3_get_26 (by decide) ?_
      exact g_sub [] rfl (gjb_X3_get_6_30 γ (h.1 8 x1.toNatClampNeg) h)
def jb_X3_put_6_27   (h : Hst) : Option (Hst) :=
  (some h)
def f_X3_put_6 (p0 : Int32) (p1 : Int32) (h : Hst) : Option (Hst) :=
  gl (539 + p0) fun x1 =>
  (if x1 < 0 then
    (jb_X3_put_6_27 h)
  else
    (if 553 ≤ x1 then
      (jb_X3_put_6_27 h)
    else
      gck x1 553 (gl (hst h 8 x1.toNatClampNeg p1) fun h2 =>
      (jb_X3_put_6_27 h2))))
set_option maxRecDepth 20000 in
theorem gjb_X3_put_6_27 (γ : Gv)   (h : Hst) : G γ RX3 cX3_put 4 none [] vV 0 0 27 [] [] h (jb_X3_put_6_27 h) := by
  unfold jb_X3_put_6_27
  exact g_return (pc := 27) dX3_put_27 rfl rfl
set_option maxRecDepth 20000 in
theorem ge_X3_put_6 (γ : Gv) (p0 : Int32) (p1 : Int32) (h : Hst) : G γ RX3 cX3_put 4 none [] vV 0 0 0 (lv_args 0 [.ref (gad γ 6), .int p0, .int p1]) [] h (f_X3_put_6 p0 p1 h) := by
  show G γ RX3 cX3_put 4 none [] vV 0 0 0 [(0, .ref (gad γ 6)), (1, .int p0), (2, .int p1)] [] h (f_X3_put_6 p0 p1 h)
  unfold f_X3_put_6
  refine g_aload_n (pc := 0) dX3_put_0 rfl 0 rfl ?_
  refine gf_RX3_13_6 (pc := 1) dX3_put_1 ?_
  refine g_iload_n (pc := 4) dX3_put_4 rfl 1 rfl ?_
  refine g_iadd (pc := 5) dX3_put_5 ?_
  refine g_nmi (fun x1 => ?_)
  refine g_istore_n (pc := 6) (lv' := [(3, .int x1), (0, .ref (gad γ 6)), (1, .int p0), (2, .int p1)]) dX3_put_6 rfl (by decide) rfl ?_
  refine g_iload_n (pc := 7) dX3_put_7 rfl 0 rfl ?_
  refine g_if_lt (pc := 8) (tgt := 27) dX3_put_8 (by decide) ?_ ?_
  · exact g_sub [] rfl (gjb_X3_put_6_27 γ h)
  · refine g_iload_n (pc := 11) dX3_put_11 rfl 0 rfl ?_
    refine g_aload_n (pc := 12) dX3_put_12 rfl 1 rfl ?_
    refine gf_RX3_7_6 (pc := 13) dX3_put_13 ?_
    refine g_alen (pc := 16) (n := 0) (v := 553) 8 0 (gat_8 _ _) rfl rfl dX3_put_16 ?_
    refine g_icmp_ge (pc := 17) (tgt := 27) dX3_put_17 (by decide) ?_ ?_
    · exact g_sub [] rfl (gjb_X3_put_6_27 γ h)
    · refine g_aload_n (pc := 20) dX3_put_20 rfl 1 rfl ?_
      refine gf_RX3_7_6 (pc := 21) dX3_put_21 ?_
      refine g_iload_n (pc := 24) dX3_put_24 rfl 0 rfl ?_
      refine g_iload_n (pc := 25) dX3_put_25 rfl 3 rfl ?_
      refine g_iast (pc := 26) 8 (gat_8 _ _) (gset_8 _ _ _) dX3_put_26 ?_
      refine g_nmh (fun h2 => ?_)
      exact g_sub [] rfl (gjb_X3_put_6_27 γ h2)
def f_X6_set (p0 : Int32) (p1 : Int32) (h : Hst) : Option ((Int32 × Hst) ⊕ (Nat × Hst)) :=
  gb (f_X6_isSetting p0 h) fun x2 h1 =>
  (if x2 = 0 then
    (some (.inr (0, h1)))
  else
    gb (f_X6_isSettingValue p0 p1 h1) fun x4 h3 =>
    (if x4 = 0 then
      (some (.inr (1, h3)))
    else
      gb (f_X3_get_6 p0 h3) fun x6 h5 =>
      gbv (f_X0_save h5) fun h7 =>
      gbv (f_X3_put_6 p0 p1 h7) fun h8 =>
      (some (.inl (x6, h8)))))
set_option maxRecDepth 20000 in
theorem ge_X6_set (γ : Gv) (p0 : Int32) (p1 : Int32) (h : Hst) : G γ RX6 cX6_set 4 (some .int) [] vIX 6 0 0 (lv_args 0 [.ref (gad γ 0), .int p0, .int p1]) [] h (f_X6_set p0 p1 h) := by
  show G γ RX6 cX6_set 4 (some .int) [] vIX 6 0 0 [(0, .ref (gad γ 0)), (1, .int p0), (2, .int p1)] [] h (f_X6_set p0 p1 h)
  unfold f_X6_set
  refine g_iload_n (pc := 0) dX6_set_0 rfl 1 rfl ?_
  refine g_cI (pc := 1) (st := []) (fun r hr => gRunS (As := [.int p0]) (ge_X6_isSetting γ p0 h) hr wv_RX6_119 rfl (Nat.le_of_ble_eq_true rfl) rfl (Nat.le_of_ble_eq_true rfl) (Nat.le_of_ble_eq_true rfl) dX6_set_1) (fun x2 h1 => ?_)
  refine g_if_ne (pc := 4) (tgt := 17) dX6_set_4 (by decide) ?_ ?_
  · refine g_iload_n (pc := 17) dX6_set_17 rfl 1 rfl ?_
    refine g_iload_n (pc := 18) dX6_set_18 rfl 2 rfl ?_
    refine g_cI (pc := 19) (st := []) (fun r hr => gRunS (As := [.int p0, .int p1]) (ge_X6_isSettingValue γ p0 p1 h1) hr wv_RX6_127 rfl (Nat.le_of_ble_eq_true rfl) rfl (Nat.le_of_ble_eq_true rfl) (Nat.le_of_ble_eq_true rfl) dX6_set_19) (fun x4 h3 => ?_)
    refine g_if_ne (pc := 22) (tgt := 35) dX6_set_22 (by decide) ?_ ?_
    · refine g_aload_n (pc := 35) dX6_set_35 rfl 0 rfl ?_
      refine gf_RX6_12_0 (pc := 36) dX6_set_36 ?_
      refine gf_RX6_133_1 (pc := 39) dX6_set_39 ?_
      refine g_iload_n (pc := 42) dX6_set_42 rfl 1 rfl ?_
      refine g_cI (pc := 43) (st := []) (fun r hr => gRunV (As := [.int p0]) 6 (ge_X3_get_6 γ p0 h3) hr wv_RX6_51 rfl (Nat.le_of_ble_eq_true rfl) (gat_6 _ _) rfl rfl (Nat.le_of_ble_eq_true rfl) (Nat.le_of_ble_eq_true rfl) dX6_set_43) (fun x6 h5 => ?_)
      refine g_istore_n (pc := 46) (lv' := [(3, .int x6), (0, .ref (gad γ 0)), (1, .int p0), (2, .int p1)]) dX6_set_46 rfl (by decide) rfl ?_
      refine g_aload_n (pc := 47) dX6_set_47 rfl 1 rfl ?_
      refine gf_RX6_12_0 (pc := 48) dX6_set_48 ?_
      refine g_cV (pc := 51) (st := []) (fun r hr => gRunV (As := []) 1 (ge_X0_save γ h5) hr wv_RX6_64 rfl (Nat.le_of_ble_eq_true rfl) (gat_1 _ _) rfl rfl (Nat.le_of_ble_eq_true rfl) (Nat.le_of_ble_eq_true rfl) dX6_set_51) (fun h7 => ?_)
      refine g_aload_n (pc := 54) dX6_set_54 rfl 1 rfl ?_
      refine gf_RX6_12_0 (pc := 55) dX6_set_55 ?_
      refine gf_RX6_133_1 (pc := 58) dX6_set_58 ?_
      refine g_iload_n (pc := 61) dX6_set_61 rfl 2 rfl ?_
      refine g_iload_n (pc := 62) dX6_set_62 rfl 3 rfl ?_
      refine g_cV (pc := 63) (st := []) (fun r hr => gRunV (As := [.int p0, .int p1]) 6 (ge_X3_put_6 γ p0 p1 h7) hr wv_RX6_136 rfl (Nat.le_of_ble_eq_true rfl) (gat_6 _ _) rfl rfl (Nat.le_of_ble_eq_true rfl) (Nat.le_of_ble_eq_true rfl) dX6_set_63) (fun h8 => ?_)
      refine g_iload_n (pc := 66) dX6_set_66 rfl 0 rfl ?_
      exact g_ireturn (pc := 67) (ty := .int) dX6_set_67 rfl rfl rfl
    · exact g_throwS 1 (by decide +kernel) wcl_RX6_83 wini_1 wat_RX6_87_1 rfl (by decide +kernel : (131, "the value is out of the range of the setting") ∈ gstrs) (Nat.le_of_ble_eq_true rfl) (fun x hx => nomatch hx) dX6_set_25 dX6_set_28 dX6_set_29 dX6_set_31 dX6_set_34 (fun z hz => by cases hz; rfl)
  · exact g_throwS 0 (by decide +kernel) wcl_RX6_122 wini_0 wat_RX6_126_0 rfl (by decide +kernel : (124, "there is no such setting") ∈ gstrs) (Nat.le_of_ble_eq_true rfl) (fun x hx => nomatch hx) dX6_set_7 dX6_set_10 dX6_set_11 dX6_set_13 dX6_set_16 (fun z hz => by cases hz; rfl)
def jb_X6_checkTank_19   (h : Hst) : Option ((Hst) ⊕ (Nat × Hst)) :=
  (some (.inr (0, h)))
def f_X6_checkTank (p0 : Int32) (h : Hst) : Option ((Hst) ⊕ (Nat × Hst)) :=
  (if p0 < 0 then
    (jb_X6_checkTank_19 h)
  else
    gb (f_X3_get_7 2 h) fun x2 h1 =>
    (if p0 < x2 then
      (some (.inl h1))
    else
      (jb_X6_checkTank_19 h1)))
set_option maxRecDepth 20000 in
theorem gjb_X6_checkTank_19 (γ : Gv)   (h : Hst) : G γ RX6 cX6_checkTank 2 none [] vVX 6 0 19 [] [] h (jb_X6_checkTank_19 h) := by
  unfold jb_X6_checkTank_19
  exact g_throwSW 0 (by decide +kernel) wcl_RX6_122 wini_0 wat_RX6_126_0 rfl (by decide +kernel : (381, "there is no such tank") ∈ gstrs) (Nat.le_of_ble_eq_true rfl) (fun x hx => nomatch hx) dX6_checkTank_19 dX6_checkTank_22 dX6_checkTank_23 dX6_checkTank_26 dX6_checkTank_29 (fun z hz => by cases hz; rfl)
set_option maxRecDepth 20000 in
theorem ge_X6_checkTank (γ : Gv) (p0 : Int32) (h : Hst) : G γ RX6 cX6_checkTank 2 none [] vVX 6 0 0 (lv_args 0 [.ref (gad γ 0), .int p0]) [] h (f_X6_checkTank p0 h) := by
  show G γ RX6 cX6_checkTank 2 none [] vVX 6 0 0 [(0, .ref (gad γ 0)), (1, .int p0)] [] h (f_X6_checkTank p0 h)
  unfold f_X6_checkTank
  refine g_iload_n (pc := 0) dX6_checkTank_0 rfl 1 rfl ?_
  refine g_if_lt (pc := 1) (tgt := 19) dX6_checkTank_1 (by decide) ?_ ?_
  · exact g_sub [] rfl (gjb_X6_checkTank_19 γ h)
  · refine g_iload_n (pc := 4) dX6_checkTank_4 rfl 1 rfl ?_
    refine g_aload_n (pc := 5) dX6_checkTank_5 rfl 0 rfl ?_
    refine gf_RX6_12_0 (pc := 6) dX6_checkTank_6 ?_
    refine gf_RX6_47_1 (pc := 9) dX6_checkTank_9 ?_
    refine g_iconst (pc := 12) (v := 2) dX6_checkTank_12 (by decide) ?_
    refine g_cI (pc := 13) (st := [.int p0]) (fun r hr => gRunV (As := [.int 2]) 7 (ge_X3_get_7 γ 2 h) hr wv_RX6_51 rfl (Nat.le_of_ble_eq_true rfl) (gat_7 _ _) rfl rfl (Nat.le_of_ble_eq_true rfl) (Nat.le_of_ble_eq_true rfl) dX6_checkTank_13) (fun x2 h1 => ?_)
    refine g_icmp_lt (pc := 16) (tgt := 30) dX6_checkTank_16 (by decide) ?_ ?_
    · exact g_return (pc := 30) dX6_checkTank_30 rfl rfl
    · exact g_sub [] rfl (gjb_X6_checkTank_19 γ h1)
def jb_X5_get_3_37  (s0 : Int32) (h : Hst) : Option (Int32 × Hst) :=
  (some (s0, h))
def jb_X5_get_3_36   (h : Hst) : Option (Int32 × Hst) :=
  (jb_X5_get_3_37 0 h)
def f_X5_get_3 (p0 : Int32) (p1 : Int32) (h : Hst) : Option (Int32 × Hst) :=
  gl ((32 + (p0 * 11)) + p1) fun x1 =>
  (if x1 < 0 then
    (jb_X5_get_3_36 h)
  else
    (if 553 ≤ x1 then
      (jb_X5_get_3_36 h)
    else
      gck x1 553 ((jb_X5_get_3_37 (h.1 8 x1.toNatClampNeg) h))))
set_option maxRecDepth 20000 in
theorem gjb_X5_get_3_37 (γ : Gv)  (s0 : Int32) (h : Hst) : G γ RX5 cX5_get 4 (some .int) [] vI 0 0 37 [] [.int s0] h (jb_X5_get_3_37 s0 h) := by
  unfold jb_X5_get_3_37
  exact g_ireturn (pc := 37) (ty := .int) dX5_get_37 rfl rfl rfl
set_option maxRecDepth 20000 in
theorem gjb_X5_get_3_36 (γ : Gv)   (h : Hst) : G γ RX5 cX5_get 4 (some .int) [] vI 0 0 36 [] [] h (jb_X5_get_3_36 h) := by
  unfold jb_X5_get_3_36
  refine g_iconst (pc := 36) (v := 0) dX5_get_36 (by decide) ?_
  exact gjb_X5_get_3_37 γ 0 h
set_option maxRecDepth 20000 in
theorem ge_X5_get_3 (γ : Gv) (p0 : Int32) (p1 : Int32) (h : Hst) : G γ RX5 cX5_get 4 (some .int) [] vI 0 0 0 (lv_args 0 [.ref (gad γ 3), .int p0, .int p1]) [] h (f_X5_get_3 p0 p1 h) := by
  show G γ RX5 cX5_get 4 (some .int) [] vI 0 0 0 [(0, .ref (gad γ 3)), (1, .int p0), (2, .int p1)] [] h (f_X5_get_3 p0 p1 h)
  unfold f_X5_get_3
  refine g_aload_n (pc := 0) dX5_get_0 rfl 0 rfl ?_
  refine gf_RX5_13_3 (pc := 1) dX5_get_1 ?_
  refine g_iload_n (pc := 4) dX5_get_4 rfl 1 rfl ?_
  refine g_aload_n (pc := 5) dX5_get_5 rfl 0 rfl ?_
  refine gf_RX5_17_3 (pc := 6) dX5_get_6 ?_
  refine g_imul (pc := 9) dX5_get_9 ?_
  refine g_iadd (pc := 10) dX5_get_10 ?_
  refine g_iload_n (pc := 11) dX5_get_11 rfl 2 rfl ?_
  refine g_iadd (pc := 12) dX5_get_12 ?_
  refine g_nmi (fun x1 => ?_)
  refine g_istore_n (pc := 13) (lv' := [(3, .int x1), (0, .ref (gad γ 3)), (1, .int p0), (2, .int p1)]) dX5_get_13 rfl (by decide) rfl ?_
  refine g_iload_n (pc := 14) dX5_get_14 rfl 0 rfl ?_
  refine g_if_lt (pc := 15) (tgt := 36) dX5_get_15 (by decide) ?_ ?_
  · exact g_sub [] rfl (gjb_X5_get_3_36 γ h)
  · refine g_iload_n (pc := 18) dX5_get_18 rfl 0 rfl ?_
    refine g_aload_n (pc := 19) dX5_get_19 rfl 1 rfl ?_
    refine gf_RX5_7_3 (pc := 20) dX5_get_20 ?_
    refine g_alen (pc := 23) (n := 0) (v := 553) 8 0 (gat_8 _ _) rfl rfl dX5_get_23 ?_
    refine g_icmp_ge (pc := 24) (tgt := 36) dX5_get_24 (by decide) ?_ ?_
    · exact g_sub [] rfl (gjb_X5_get_3_36 γ h)
    · refine g_aload_n (pc := 27) dX5_get_27 rfl 1 rfl ?_
      refine gf_RX5_7_3 (pc := 28) dX5_get_28 ?_
      refine g_iload_n (pc := 31) dX5_get_31 rfl 0 rfl ?_
      refine g_iald (pc := 32) 8 (gat_8 _ _) dX5_get_32 ?_
      refine g_goto (pc := 33) (tgt := 37) dX5_get_33 (by decide) ?_
      exact g_sub [] rfl (gjb_X5_get_3_37 γ (h.1 8 x1.toNatClampNeg) h)
def jb_X2_begin_53 (R14 : Int32 → Int32 → Hst → Option (Hst)) (a1 : Int32) (a2 : Int32) (s0 : Int32) (s1 : Int32) (h : Hst) : Option (Hst) :=
  gck s1 40 (gl (hst h 14 s1.toNatClampNeg (vp_nar .boolean s0)) fun h1 =>
  (R14 a1 (a2 + 1) h1))
def jb_X2_begin_52 (R14 : Int32 → Int32 → Hst → Option (Hst)) (a1 : Int32) (a2 : Int32) (s0 : Int32) (h : Hst) : Option (Hst) :=
  (jb_X2_begin_53 R14 a1 a2 0 s0 h)
def lp_X2_begin_14 : Nat → Int32 → Int32 → Hst → Option (Hst)
  | 0, _, _, _ => none
  | n + 1, a1, a2, h =>
    (if 40 ≤ a2 then
      gb (f_X3_get_7 3 h) fun x2 h1 =>
      gl (hst h1 13 2 x2) fun h3 =>
      gb (f_X3_get_7 4 h3) fun x5 h4 =>
      gl (hst h4 13 3 x5) fun h6 =>
      (some h6)
    else
      (if a1 ≤ a2 then
        (jb_X2_begin_52 (lp_X2_begin_14 n) a1 a2 a2 h)
      else
        gb (f_X5_get_3 a2 5 h) fun x8 h7 =>
        (if x8 = 0 then
          (jb_X2_begin_53 (lp_X2_begin_14 n) a1 a2 1 a2 h7)
        else
          (jb_X2_begin_52 (lp_X2_begin_14 n) a1 a2 a2 h7))))
def f_X2_begin  (h : Hst) : Option (Hst) :=
  gb (f_X3_get_7 1 h) fun x2 h1 =>
  (lp_X2_begin_14 FU x2 0 h1)
set_option maxRecDepth 20000 in
theorem gjb_X2_begin_53 (γ : Gv) (R14 : Int32 → Int32 → Hst → Option (Hst)) (hR14 : ∀ (a1 : Int32) (a2 : Int32) (h : Hst), G γ RX2 cX2_begin 3 none [] vV 1 0 14 [(0, .ref (gad γ 13)), (1, .int a1), (2, .int a2)] [] h (R14 a1 a2 h)) (a1 : Int32) (a2 : Int32) (s0 : Int32) (s1 : Int32) (h : Hst) : G γ RX2 cX2_begin 3 none [] vV 1 0 53 [(0, .ref (gad γ 13)), (1, .int a1), (2, .int a2)] [.int s0, .int s1, .ref (gad γ 14)] h (jb_X2_begin_53 R14 a1 a2 s0 s1 h) := by
  unfold jb_X2_begin_53
  refine g_zast (pc := 53) 14 (gat_14 _ _) (gset_14 _ _ _) dX2_begin_53 ?_
  refine g_nmh (fun h1 => ?_)
  refine g_iinc (pc := 54) (q := 2) (v := a2 + 1) (lv' := [(2, .int (a2 + 1)), (0, .ref (gad γ 13)), (1, .int a1)]) dX2_begin_54 rfl rfl (by decide) rfl ?_
  refine g_goto (pc := 57) (tgt := 14) dX2_begin_57 (by decide) ?_
  exact g_sub [1, 2, 0] rfl (hR14 a1 (a2 + 1) h1)
set_option maxRecDepth 20000 in
theorem gjb_X2_begin_52 (γ : Gv) (R14 : Int32 → Int32 → Hst → Option (Hst)) (hR14 : ∀ (a1 : Int32) (a2 : Int32) (h : Hst), G γ RX2 cX2_begin 3 none [] vV 1 0 14 [(0, .ref (gad γ 13)), (1, .int a1), (2, .int a2)] [] h (R14 a1 a2 h)) (a1 : Int32) (a2 : Int32) (s0 : Int32) (h : Hst) : G γ RX2 cX2_begin 3 none [] vV 1 0 52 [(0, .ref (gad γ 13)), (1, .int a1), (2, .int a2)] [.int s0, .ref (gad γ 14)] h (jb_X2_begin_52 R14 a1 a2 s0 h) := by
  unfold jb_X2_begin_52
  refine g_iconst (pc := 52) (v := 0) dX2_begin_52 (by decide) ?_
  exact gjb_X2_begin_53 γ R14 hR14 a1 a2 0 s0 h
set_option maxRecDepth 20000 in
theorem glp_X2_begin_14 (γ : Gv)  : ∀ (n : Nat) (a1 : Int32) (a2 : Int32) (h : Hst), G γ RX2 cX2_begin 3 none [] vV 1 0 14 [(0, .ref (gad γ 13)), (1, .int a1), (2, .int a2)] [] h (lp_X2_begin_14 n a1 a2 h) := by
  intro n
  induction n with
  | zero => intro a1 a2 h; exact g_none
  | succ n ih =>
    intro a1 a2 h
    rw [lp_X2_begin_14]
    refine g_iload_n (pc := 14) dX2_begin_14 rfl 2 rfl ?_
    refine g_aload_n (pc := 15) dX2_begin_15 rfl 0 rfl ?_
    refine gf_RX2_15_13 (pc := 16) dX2_begin_16 ?_
    refine g_alen (pc := 19) (n := 0) (v := 40) 14 1 (gat_14 _ _) rfl rfl dX2_begin_19 ?_
    refine g_icmp_ge (pc := 20) (tgt := 60) dX2_begin_20 (by decide) ?_ ?_
    · refine g_aload_n (pc := 60) dX2_begin_60 rfl 0 rfl ?_
      refine g_aload_n (pc := 61) dX2_begin_61 rfl 0 rfl ?_
      refine gf_RX2_9_13 (pc := 62) dX2_begin_62 ?_
      refine gf_RX2_19_1 (pc := 65) dX2_begin_65 ?_
      refine g_iconst (pc := 68) (v := 3) dX2_begin_68 (by decide) ?_
      refine g_cI (pc := 69) (st := [.ref (gad γ 13)]) (fun r hr => gRunV (As := [.int 3]) 7 (ge_X3_get_7 γ 3 h) hr wv_RX2_25 rfl (Nat.le_of_ble_eq_true rfl) (gat_7 _ _) rfl rfl (Nat.le_of_ble_eq_true rfl) (Nat.le_of_ble_eq_true rfl) dX2_begin_69) (fun x2 h1 => ?_)
      refine pf_RX2_40_13 (pc := 72) dX2_begin_72 ?_
      refine g_nmh (fun h3 => ?_)
      refine g_aload_n (pc := 75) dX2_begin_75 rfl 0 rfl ?_
      refine g_aload_n (pc := 76) dX2_begin_76 rfl 0 rfl ?_
      refine gf_RX2_9_13 (pc := 77) dX2_begin_77 ?_
      refine gf_RX2_19_1 (pc := 80) dX2_begin_80 ?_
      refine g_iconst (pc := 83) (v := 4) dX2_begin_83 (by decide) ?_
      refine g_cI (pc := 84) (st := [.ref (gad γ 13)]) (fun r hr => gRunV (As := [.int 4]) 7 (ge_X3_get_7 γ 4 h3) hr wv_RX2_25 rfl (Nat.le_of_ble_eq_true rfl) (gat_7 _ _) rfl rfl (Nat.le_of_ble_eq_true rfl) (Nat.le_of_ble_eq_true rfl) dX2_begin_84) (fun x5 h4 => ?_)
      refine pf_RX2_44_13 (pc := 87) dX2_begin_87 ?_
      refine g_nmh (fun h6 => ?_)
      exact g_return (pc := 90) dX2_begin_90 rfl rfl
    · refine g_aload_n (pc := 23) dX2_begin_23 rfl 0 rfl ?_
      refine gf_RX2_15_13 (pc := 24) dX2_begin_24 ?_
      refine g_iload_n (pc := 27) dX2_begin_27 rfl 2 rfl ?_
      refine g_iload_n (pc := 28) dX2_begin_28 rfl 2 rfl ?_
      refine g_iload_n (pc := 29) dX2_begin_29 rfl 1 rfl ?_
      refine g_icmp_ge (pc := 30) (tgt := 52) dX2_begin_30 (by decide) ?_ ?_
      · exact gjb_X2_begin_52 γ (lp_X2_begin_14 n) ih a1 a2 a2 h
      · refine g_aload_n (pc := 33) dX2_begin_33 rfl 0 rfl ?_
        refine gf_RX2_9_13 (pc := 34) dX2_begin_34 ?_
        refine gf_RX2_31_1 (pc := 37) dX2_begin_37 ?_
        refine g_iload_n (pc := 40) dX2_begin_40 rfl 2 rfl ?_
        refine g_iconst (pc := 41) (v := 5) dX2_begin_41 (by decide) ?_
        refine g_cI (pc := 42) (st := [.int a2, .ref (gad γ 14)]) (fun r hr => gRunV (As := [.int a2, .int 5]) 3 (ge_X5_get_3 γ a2 5 h) hr wv_RX2_35 rfl (Nat.le_of_ble_eq_true rfl) (gat_3 _ _) rfl rfl (Nat.le_of_ble_eq_true rfl) (Nat.le_of_ble_eq_true rfl) dX2_begin_42) (fun x8 h7 => ?_)
        refine g_if_ne (pc := 45) (tgt := 52) dX2_begin_45 (by decide) ?_ ?_
        · exact gjb_X2_begin_52 γ (lp_X2_begin_14 n) ih a1 a2 a2 h7
        · refine g_iconst (pc := 48) (v := 1) dX2_begin_48 (by decide) ?_
          refine g_goto (pc := 49) (tgt := 53) dX2_begin_49 (by decide) ?_
          exact gjb_X2_begin_53 γ (lp_X2_begin_14 n) ih a1 a2 1 a2 h7
set_option maxRecDepth 20000 in
theorem ge_X2_begin (γ : Gv)  (h : Hst) : G γ RX2 cX2_begin 3 none [] vV 1 0 0 (lv_args 0 [.ref (gad γ 13)]) [] h (f_X2_begin h) := by
  show G γ RX2 cX2_begin 3 none [] vV 1 0 0 [(0, .ref (gad γ 13))] [] h (f_X2_begin h)
  unfold f_X2_begin
  refine g_aload_n (pc := 0) dX2_begin_0 rfl 0 rfl ?_
  refine gf_RX2_9_13 (pc := 1) dX2_begin_1 ?_
  refine gf_RX2_19_1 (pc := 4) dX2_begin_4 ?_
  refine g_iconst (pc := 7) (v := 1) dX2_begin_7 (by decide) ?_
  refine g_cI (pc := 8) (st := []) (fun r hr => gRunV (As := [.int 1]) 7 (ge_X3_get_7 γ 1 h) hr wv_RX2_25 rfl (Nat.le_of_ble_eq_true rfl) (gat_7 _ _) rfl rfl (Nat.le_of_ble_eq_true rfl) (Nat.le_of_ble_eq_true rfl) dX2_begin_8) (fun x2 h1 => ?_)
  refine g_istore_n (pc := 11) (lv' := [(1, .int x2), (0, .ref (gad γ 13))]) dX2_begin_11 rfl (by decide) rfl ?_
  refine g_iconst (pc := 12) (v := 0) dX2_begin_12 (by decide) ?_
  refine g_istore_n (pc := 13) (lv' := [(2, .int 0), (1, .int x2), (0, .ref (gad γ 13))]) dX2_begin_13 rfl (by decide) rfl ?_
  exact g_sub [2, 1, 0] rfl (glp_X2_begin_14 γ FU x2 0 h1)
def lp_X2_lotInTurn_61 : Nat → Int32 → Hst → Option (Int32 × Hst)
  | 0, _, _ => none
  | n + 1, a2, h =>
    (if 40 ≤ a2 then
      (some ((-1), h))
    else
      gck a2 40 ((if (h.1 14 a2.toNatClampNeg) = 0 then
        ((lp_X2_lotInTurn_61 n) (a2 + 1) h)
      else
        (some (a2, h)))))
def jb_X2_lotInTurn_59   (h : Hst) : Option (Int32 × Hst) :=
  (lp_X2_lotInTurn_61 FU 0 h)
def jb_X2_lotInTurn_53 (R14 : Int32 → Hst → Option (Int32 × Hst)) (a2 : Int32) (h : Hst) : Option (Int32 × Hst) :=
  (R14 (a2 + 1) h)
def lp_X2_lotInTurn_14 : Nat → Int32 → Hst → Option (Int32 × Hst)
  | 0, _, _ => none
  | n + 1, a2, h =>
    (if 40 ≤ a2 then
      (jb_X2_lotInTurn_59 h)
    else
      gck a2 40 ((if (h.1 14 a2.toNatClampNeg) = 0 then
        (jb_X2_lotInTurn_53 (lp_X2_lotInTurn_14 n) a2 h)
      else
        gb (f_X5_get_3 a2 1 h) fun x2 h1 =>
        (if x2 = (h1.1 13 2) then
          (some (a2, h1))
        else
          (jb_X2_lotInTurn_53 (lp_X2_lotInTurn_14 n) a2 h1)))))
def f_X2_lotInTurn (p0 : Int32) (h : Hst) : Option (Int32 × Hst) :=
  (if p0 = 1 then
    (if (h.1 13 3) ≤ 0 then
      (jb_X2_lotInTurn_59 h)
    else
      (lp_X2_lotInTurn_14 FU 0 h))
  else
    (jb_X2_lotInTurn_59 h))
set_option maxRecDepth 20000 in
theorem glp_X2_lotInTurn_61 (γ : Gv)  : ∀ (n : Nat) (a2 : Int32) (h : Hst), G γ RX2 cX2_lotInTurn 3 (some .int) [] vI 1 0 61 [(0, .ref (gad γ 13)), (2, .int a2)] [] h (lp_X2_lotInTurn_61 n a2 h) := by
  intro n
  induction n with
  | zero => intro a2 h; exact g_none
  | succ n ih =>
    intro a2 h
    rw [lp_X2_lotInTurn_61]
    refine g_iload_n (pc := 61) dX2_lotInTurn_61 rfl 1 rfl ?_
    refine g_aload_n (pc := 62) dX2_lotInTurn_62 rfl 0 rfl ?_
    refine gf_RX2_15_13 (pc := 63) dX2_lotInTurn_63 ?_
    refine g_alen (pc := 66) (n := 0) (v := 40) 14 1 (gat_14 _ _) rfl rfl dX2_lotInTurn_66 ?_
    refine g_icmp_ge (pc := 67) (tgt := 87) dX2_lotInTurn_67 (by decide) ?_ ?_
    · refine g_iconst (pc := 87) (v := (-1)) dX2_lotInTurn_87 (by decide) ?_
      exact g_ireturn (pc := 88) (ty := .int) dX2_lotInTurn_88 rfl rfl rfl
    · refine g_aload_n (pc := 70) dX2_lotInTurn_70 rfl 0 rfl ?_
      refine gf_RX2_15_13 (pc := 71) dX2_lotInTurn_71 ?_
      refine g_iload_n (pc := 74) dX2_lotInTurn_74 rfl 1 rfl ?_
      refine g_zald (pc := 75) 14 (gat_14 _ _) dX2_lotInTurn_75 ?_
      refine g_if_eq (pc := 76) (tgt := 81) dX2_lotInTurn_76 (by decide) ?_ ?_
      · refine g_iinc (pc := 81) (q := 1) (v := a2 + 1) (lv' := [(2, .int (a2 + 1)), (0, .ref (gad γ 13))]) dX2_lotInTurn_81 rfl rfl (by decide) rfl ?_
        refine g_goto (pc := 84) (tgt := 61) dX2_lotInTurn_84 (by decide) ?_
        exact g_sub [1, 0] rfl (ih (a2 + 1) h)
      · refine g_iload_n (pc := 79) dX2_lotInTurn_79 rfl 1 rfl ?_
        exact g_ireturn (pc := 80) (ty := .int) dX2_lotInTurn_80 rfl rfl rfl
set_option maxRecDepth 20000 in
theorem gjb_X2_lotInTurn_59 (γ : Gv)   (h : Hst) : G γ RX2 cX2_lotInTurn 3 (some .int) [] vI 1 0 59 [(0, .ref (gad γ 13))] [] h (jb_X2_lotInTurn_59 h) := by
  unfold jb_X2_lotInTurn_59
  refine g_iconst (pc := 59) (v := 0) dX2_lotInTurn_59 (by decide) ?_
  refine g_istore_n (pc := 60) (lv' := [(2, .int 0), (0, .ref (gad γ 13))]) dX2_lotInTurn_60 rfl (by decide) rfl ?_
  exact g_sub [1, 0] rfl (glp_X2_lotInTurn_61 γ FU 0 h)
set_option maxRecDepth 20000 in
theorem gjb_X2_lotInTurn_53 (γ : Gv) (R14 : Int32 → Hst → Option (Int32 × Hst)) (hR14 : ∀ (a2 : Int32) (h : Hst), G γ RX2 cX2_lotInTurn 3 (some .int) [] vI 1 0 14 [(0, .ref (gad γ 13)), (2, .int a2)] [] h (R14 a2 h)) (a2 : Int32) (h : Hst) : G γ RX2 cX2_lotInTurn 3 (some .int) [] vI 1 0 53 [(0, .ref (gad γ 13)), (2, .int a2)] [] h (jb_X2_lotInTurn_53 R14 a2 h) := by
  unfold jb_X2_lotInTurn_53
  refine g_iinc (pc := 53) (q := 1) (v := a2 + 1) (lv' := [(2, .int (a2 + 1)), (0, .ref (gad γ 13))]) dX2_lotInTurn_53 rfl rfl (by decide) rfl ?_
  refine g_goto (pc := 56) (tgt := 14) dX2_lotInTurn_56 (by decide) ?_
  exact g_sub [1, 0] rfl (hR14 (a2 + 1) h)
set_option maxRecDepth 20000 in
theorem glp_X2_lotInTurn_14 (γ : Gv)  : ∀ (n : Nat) (a2 : Int32) (h : Hst), G γ RX2 cX2_lotInTurn 3 (some .int) [] vI 1 0 14 [(0, .ref (gad γ 13)), (2, .int a2)] [] h (lp_X2_lotInTurn_14 n a2 h) := by
  intro n
  induction n with
  | zero => intro a2 h; exact g_none
  | succ n ih =>
    intro a2 h
    rw [lp_X2_lotInTurn_14]
    refine g_iload_n (pc := 14) dX2_lotInTurn_14 rfl 1 rfl ?_
    refine g_aload_n (pc := 15) dX2_lotInTurn_15 rfl 0 rfl ?_
    refine gf_RX2_15_13 (pc := 16) dX2_lotInTurn_16 ?_
    refine g_alen (pc := 19) (n := 0) (v := 40) 14 1 (gat_14 _ _) rfl rfl dX2_lotInTurn_19 ?_
    refine g_icmp_ge (pc := 20) (tgt := 59) dX2_lotInTurn_20 (by decide) ?_ ?_
    · exact g_sub [0] rfl (gjb_X2_lotInTurn_59 γ h)
    · refine g_aload_n (pc := 23) dX2_lotInTurn_23 rfl 0 rfl ?_
      refine gf_RX2_15_13 (pc := 24) dX2_lotInTurn_24 ?_
      refine g_iload_n (pc := 27) dX2_lotInTurn_27 rfl 1 rfl ?_
      refine g_zald (pc := 28) 14 (gat_14 _ _) dX2_lotInTurn_28 ?_
      refine g_if_eq (pc := 29) (tgt := 53) dX2_lotInTurn_29 (by decide) ?_ ?_
      · exact gjb_X2_lotInTurn_53 γ (lp_X2_lotInTurn_14 n) ih a2 h
      · refine g_aload_n (pc := 32) dX2_lotInTurn_32 rfl 0 rfl ?_
        refine gf_RX2_9_13 (pc := 33) dX2_lotInTurn_33 ?_
        refine gf_RX2_31_1 (pc := 36) dX2_lotInTurn_36 ?_
        refine g_iload_n (pc := 39) dX2_lotInTurn_39 rfl 1 rfl ?_
        refine g_iconst (pc := 40) (v := 1) dX2_lotInTurn_40 (by decide) ?_
        refine g_cI (pc := 41) (st := []) (fun r hr => gRunV (As := [.int a2, .int 1]) 3 (ge_X5_get_3 γ a2 1 h) hr wv_RX2_35 rfl (Nat.le_of_ble_eq_true rfl) (gat_3 _ _) rfl rfl (Nat.le_of_ble_eq_true rfl) (Nat.le_of_ble_eq_true rfl) dX2_lotInTurn_41) (fun x2 h1 => ?_)
        refine g_aload_n (pc := 44) dX2_lotInTurn_44 rfl 0 rfl ?_
        refine gf_RX2_40_13 (pc := 45) dX2_lotInTurn_45 ?_
        refine g_icmp_ne (pc := 48) (tgt := 53) dX2_lotInTurn_48 (by decide) ?_ ?_
        · exact gjb_X2_lotInTurn_53 γ (lp_X2_lotInTurn_14 n) ih a2 h1
        · refine g_iload_n (pc := 51) dX2_lotInTurn_51 rfl 1 rfl ?_
          exact g_ireturn (pc := 52) (ty := .int) dX2_lotInTurn_52 rfl rfl rfl
set_option maxRecDepth 20000 in
theorem ge_X2_lotInTurn (γ : Gv) (p0 : Int32) (h : Hst) : G γ RX2 cX2_lotInTurn 3 (some .int) [] vI 1 0 0 (lv_args 0 [.ref (gad γ 13), .int p0]) [] h (f_X2_lotInTurn p0 h) := by
  show G γ RX2 cX2_lotInTurn 3 (some .int) [] vI 1 0 0 [(0, .ref (gad γ 13)), (1, .int p0)] [] h (f_X2_lotInTurn p0 h)
  unfold f_X2_lotInTurn
  refine g_iload_n (pc := 0) dX2_lotInTurn_0 rfl 1 rfl ?_
  refine g_iconst (pc := 1) (v := 1) dX2_lotInTurn_1 (by decide) ?_
  refine g_icmp_ne (pc := 2) (tgt := 59) dX2_lotInTurn_2 (by decide) ?_ ?_
  · exact g_sub [0] rfl (gjb_X2_lotInTurn_59 γ h)
  · refine g_aload_n (pc := 5) dX2_lotInTurn_5 rfl 0 rfl ?_
    refine gf_RX2_44_13 (pc := 6) dX2_lotInTurn_6 ?_
    refine g_if_le (pc := 9) (tgt := 59) dX2_lotInTurn_9 (by decide) ?_ ?_
    · exact g_sub [0] rfl (gjb_X2_lotInTurn_59 γ h)
    · refine g_iconst (pc := 12) (v := 0) dX2_lotInTurn_12 (by decide) ?_
      refine g_istore_n (pc := 13) (lv' := [(2, .int 0), (0, .ref (gad γ 13)), (1, .int p0)]) dX2_lotInTurn_13 rfl (by decide) rfl ?_
      exact g_sub [1, 0] rfl (glp_X2_lotInTurn_14 γ FU 0 h)
def f_X2_weigh  (h : Hst) : Option (Hst) :=
  gb (f_X5_get_3 (h.1 13 5) 1 h) fun x2 h1 =>
  gb (f_X5_get_5 x2 0 h1) fun x4 h3 =>
  gb (f_X5_get_3 (h3.1 13 5) 2 h3) fun x6 h5 =>
  gdz 100 (gl (hst h5 13 6 ((x6 * x4) / 100)) fun h7 =>
  gb (f_X5_get_3 (h7.1 13 5) 4 h7) fun x9 h8 =>
  gdz 1000 (gl (hst h8 13 7 (((h7.1 13 6) * x9) / 1000)) fun h10 =>
  gb (f_X3_get_6 1 h10) fun x12 h11 =>
  gdz 1000 (gl (hst h11 13 8 (((h10.1 13 7) * x12) / 1000)) fun h13 =>
  (some h13))))
set_option maxRecDepth 20000 in
theorem ge_X2_weigh (γ : Gv)  (h : Hst) : G γ RX2 cX2_weigh 2 none [] vV 1 0 0 (lv_args 0 [.ref (gad γ 13)]) [] h (f_X2_weigh h) := by
  show G γ RX2 cX2_weigh 2 none [] vV 1 0 0 [(0, .ref (gad γ 13))] [] h (f_X2_weigh h)
  unfold f_X2_weigh
  refine g_aload_n (pc := 0) dX2_weigh_0 rfl 0 rfl ?_
  refine gf_RX2_9_13 (pc := 1) dX2_weigh_1 ?_
  refine gf_RX2_70_1 (pc := 4) dX2_weigh_4 ?_
  refine g_aload_n (pc := 7) dX2_weigh_7 rfl 0 rfl ?_
  refine gf_RX2_9_13 (pc := 8) dX2_weigh_8 ?_
  refine gf_RX2_31_1 (pc := 11) dX2_weigh_11 ?_
  refine g_aload_n (pc := 14) dX2_weigh_14 rfl 0 rfl ?_
  refine gf_RX2_60_13 (pc := 15) dX2_weigh_15 ?_
  refine g_iconst (pc := 18) (v := 1) dX2_weigh_18 (by decide) ?_
  refine g_cI (pc := 19) (st := [.ref (gad γ 5)]) (fun r hr => gRunV (As := [.int (h.1 13 5), .int 1]) 3 (ge_X5_get_3 γ (h.1 13 5) 1 h) hr wv_RX2_35 rfl (Nat.le_of_ble_eq_true rfl) (gat_3 _ _) rfl rfl (Nat.le_of_ble_eq_true rfl) (Nat.le_of_ble_eq_true rfl) dX2_weigh_19) (fun x2 h1 => ?_)
  refine g_iconst (pc := 22) (v := 0) dX2_weigh_22 (by decide) ?_
  refine g_cI (pc := 23) (st := []) (fun r hr => gRunV (As := [.int x2, .int 0]) 5 (ge_X5_get_5 γ x2 0 h1) hr wv_RX2_35 rfl (Nat.le_of_ble_eq_true rfl) (gat_5 _ _) rfl rfl (Nat.le_of_ble_eq_true rfl) (Nat.le_of_ble_eq_true rfl) dX2_weigh_23) (fun x4 h3 => ?_)
  refine g_istore_n (pc := 26) (lv' := [(1, .int x4), (0, .ref (gad γ 13))]) dX2_weigh_26 rfl (by decide) rfl ?_
  refine g_aload_n (pc := 27) dX2_weigh_27 rfl 1 rfl ?_
  refine g_aload_n (pc := 28) dX2_weigh_28 rfl 1 rfl ?_
  refine gf_RX2_9_13 (pc := 29) dX2_weigh_29 ?_
  refine gf_RX2_31_1 (pc := 32) dX2_weigh_32 ?_
  refine g_aload_n (pc := 35) dX2_weigh_35 rfl 1 rfl ?_
  refine gf_RX2_60_13 (pc := 36) dX2_weigh_36 ?_
  refine g_iconst (pc := 39) (v := 2) dX2_weigh_39 (by decide) ?_
  refine g_cI (pc := 40) (st := [.ref (gad γ 13)]) (fun r hr => gRunV (As := [.int (h3.1 13 5), .int 2]) 3 (ge_X5_get_3 γ (h3.1 13 5) 2 h3) hr wv_RX2_35 rfl (Nat.le_of_ble_eq_true rfl) (gat_3 _ _) rfl rfl (Nat.le_of_ble_eq_true rfl) (Nat.le_of_ble_eq_true rfl) dX2_weigh_40) (fun x6 h5 => ?_)
  refine g_iload_n (pc := 43) dX2_weigh_43 rfl 0 rfl ?_
  refine g_imul (pc := 44) dX2_weigh_44 ?_
  refine g_bipush (pc := 45) (v := 100) dX2_weigh_45 (by decide) ?_
  refine g_idiv (pc := 47) dX2_weigh_47 ?_
  refine pf_RX2_73_13 (pc := 48) dX2_weigh_48 ?_
  refine g_nmh (fun h7 => ?_)
  refine g_aload_n (pc := 51) dX2_weigh_51 rfl 1 rfl ?_
  refine g_aload_n (pc := 52) dX2_weigh_52 rfl 1 rfl ?_
  refine gf_RX2_73_13 (pc := 53) dX2_weigh_53 ?_
  refine g_aload_n (pc := 56) dX2_weigh_56 rfl 1 rfl ?_
  refine gf_RX2_9_13 (pc := 57) dX2_weigh_57 ?_
  refine gf_RX2_31_1 (pc := 60) dX2_weigh_60 ?_
  refine g_aload_n (pc := 63) dX2_weigh_63 rfl 1 rfl ?_
  refine gf_RX2_60_13 (pc := 64) dX2_weigh_64 ?_
  refine g_iconst (pc := 67) (v := 4) dX2_weigh_67 (by decide) ?_
  refine g_cI (pc := 68) (st := [.int (h7.1 13 6), .ref (gad γ 13)]) (fun r hr => gRunV (As := [.int (h7.1 13 5), .int 4]) 3 (ge_X5_get_3 γ (h7.1 13 5) 4 h7) hr wv_RX2_35 rfl (Nat.le_of_ble_eq_true rfl) (gat_3 _ _) rfl rfl (Nat.le_of_ble_eq_true rfl) (Nat.le_of_ble_eq_true rfl) dX2_weigh_68) (fun x9 h8 => ?_)
  refine g_imul (pc := 71) dX2_weigh_71 ?_
  refine g_sipush (pc := 72) (v := 1000) dX2_weigh_72 (by decide) ?_
  refine g_idiv (pc := 75) dX2_weigh_75 ?_
  refine pf_RX2_76_13 (pc := 76) dX2_weigh_76 ?_
  refine g_nmh (fun h10 => ?_)
  refine g_aload_n (pc := 79) dX2_weigh_79 rfl 1 rfl ?_
  refine g_aload_n (pc := 80) dX2_weigh_80 rfl 1 rfl ?_
  refine gf_RX2_76_13 (pc := 81) dX2_weigh_81 ?_
  refine g_aload_n (pc := 84) dX2_weigh_84 rfl 1 rfl ?_
  refine gf_RX2_9_13 (pc := 85) dX2_weigh_85 ?_
  refine gf_RX2_50_1 (pc := 88) dX2_weigh_88 ?_
  refine g_iconst (pc := 91) (v := 1) dX2_weigh_91 (by decide) ?_
  refine g_cI (pc := 92) (st := [.int (h10.1 13 7), .ref (gad γ 13)]) (fun r hr => gRunV (As := [.int 1]) 6 (ge_X3_get_6 γ 1 h10) hr wv_RX2_25 rfl (Nat.le_of_ble_eq_true rfl) (gat_6 _ _) rfl rfl (Nat.le_of_ble_eq_true rfl) (Nat.le_of_ble_eq_true rfl) dX2_weigh_92) (fun x12 h11 => ?_)
  refine g_imul (pc := 95) dX2_weigh_95 ?_
  refine g_sipush (pc := 96) (v := 1000) dX2_weigh_96 (by decide) ?_
  refine g_idiv (pc := 99) dX2_weigh_99 ?_
  refine pf_RX2_79_13 (pc := 100) dX2_weigh_100 ?_
  refine g_nmh (fun h13 => ?_)
  exact g_return (pc := 103) dX2_weigh_103 rfl rfl
def jb_X2_passThroughMill_71  (a2 : Int32) (a4 : Int32) (s0 : Int32) (h : Hst) : Option (Hst) :=
  gl (hst h 13 10 s0) fun h1 =>
  gl (hst h1 13 4 (h1.1 13 2)) fun h2 =>
  gl (hst h2 13 2 a2) fun h3 =>
  gb (f_X3_get_6 0 h3) fun x5 h4 =>
  gl (hst h4 13 3 (if x5 < a4 then x5 else a4)) fun h6 =>
  gl (hst h6 13 11 (((h6.1 13 10) + a4) - (h6.1 13 3))) fun h7 =>
  (some h7)
def jb_X2_passThroughMill_57  (a1 : Int32) (a2 : Int32) (a3 : Int32) (a4 : Int32) (s0 : Int32) (h : Hst) : Option (Hst) :=
  gl (hst h 13 9 s0) fun h1 =>
  (if a1 = 2 then
    (jb_X2_passThroughMill_71 a2 a4 a3 h1)
  else
    (jb_X2_passThroughMill_71 a2 a4 0 h1))
def jb_X2_passThroughMill_32  (a1 : Int32) (a2 : Int32) (s0 : Int32) (h : Hst) : Option (Hst) :=
  gl (((h.1 13 8) + (h.1 13 3)) - s0) fun x1 =>
  (if a1 = 2 then
    (jb_X2_passThroughMill_57 a1 a2 s0 x1 0 h)
  else
    (jb_X2_passThroughMill_57 a1 a2 s0 x1 s0 h))
def f_X2_passThroughMill (p0 : Int32) (h : Hst) : Option (Hst) :=
  gb (f_X5_get_3 (h.1 13 5) 1 h) fun x2 h1 =>
  (if (h1.1 13 2) = x2 then
    (jb_X2_passThroughMill_32 p0 x2 0 h1)
  else
    (jb_X2_passThroughMill_32 p0 x2 (h1.1 13 3) h1))
set_option maxRecDepth 20000 in
theorem gjb_X2_passThroughMill_71 (γ : Gv)  (a2 : Int32) (a4 : Int32) (s0 : Int32) (h : Hst) : G γ RX2 cX2_passThroughMill 5 none [] vV 1 0 71 [(0, .ref (gad γ 13)), (2, .int a2), (4, .int a4)] [.int s0, .ref (gad γ 13)] h (jb_X2_passThroughMill_71 a2 a4 s0 h) := by
  unfold jb_X2_passThroughMill_71
  refine pf_RX2_85_13 (pc := 71) dX2_passThroughMill_71 ?_
  refine g_nmh (fun h1 => ?_)
  refine g_aload_n (pc := 74) dX2_passThroughMill_74 rfl 0 rfl ?_
  refine g_aload_n (pc := 75) dX2_passThroughMill_75 rfl 0 rfl ?_
  refine gf_RX2_40_13 (pc := 76) dX2_passThroughMill_76 ?_
  refine pf_RX2_88_13 (pc := 79) dX2_passThroughMill_79 ?_
  refine g_nmh (fun h2 => ?_)
  refine g_aload_n (pc := 82) dX2_passThroughMill_82 rfl 0 rfl ?_
  refine g_iload_n (pc := 83) dX2_passThroughMill_83 rfl 1 rfl ?_
  refine pf_RX2_40_13 (pc := 84) dX2_passThroughMill_84 ?_
  refine g_nmh (fun h3 => ?_)
  refine g_aload_n (pc := 87) dX2_passThroughMill_87 rfl 0 rfl ?_
  refine g_iload (pc := 88) dX2_passThroughMill_88 2 rfl ?_
  refine g_aload_n (pc := 90) dX2_passThroughMill_90 rfl 0 rfl ?_
  refine gf_RX2_9_13 (pc := 91) dX2_passThroughMill_91 ?_
  refine gf_RX2_50_1 (pc := 94) dX2_passThroughMill_94 ?_
  refine g_iconst (pc := 97) (v := 0) dX2_passThroughMill_97 (by decide) ?_
  refine g_cI (pc := 98) (st := [.int a4, .ref (gad γ 13)]) (fun r hr => gRunV (As := [.int 0]) 6 (ge_X3_get_6 γ 0 h3) hr wv_RX2_25 rfl (Nat.le_of_ble_eq_true rfl) (gat_6 _ _) rfl rfl (Nat.le_of_ble_eq_true rfl) (Nat.le_of_ble_eq_true rfl) dX2_passThroughMill_98) (fun x5 h4 => ?_)
  refine g_mmin (pc := 101) wk_RX2_91 wm_min1 wm_2 wm_min3 (Nat.le_of_ble_eq_true rfl) (Nat.le_of_ble_eq_true rfl) dX2_passThroughMill_101 ?_
  refine pf_RX2_44_13 (pc := 104) dX2_passThroughMill_104 ?_
  refine g_nmh (fun h6 => ?_)
  refine g_aload_n (pc := 107) dX2_passThroughMill_107 rfl 0 rfl ?_
  refine g_aload_n (pc := 108) dX2_passThroughMill_108 rfl 0 rfl ?_
  refine gf_RX2_85_13 (pc := 109) dX2_passThroughMill_109 ?_
  refine g_iload (pc := 112) dX2_passThroughMill_112 2 rfl ?_
  refine g_iadd (pc := 114) dX2_passThroughMill_114 ?_
  refine g_aload_n (pc := 115) dX2_passThroughMill_115 rfl 0 rfl ?_
  refine gf_RX2_44_13 (pc := 116) dX2_passThroughMill_116 ?_
  refine g_isub (pc := 119) dX2_passThroughMill_119 ?_
  refine pf_RX2_96_13 (pc := 120) dX2_passThroughMill_120 ?_
  refine g_nmh (fun h7 => ?_)
  exact g_return (pc := 123) dX2_passThroughMill_123 rfl rfl
set_option maxRecDepth 20000 in
theorem gjb_X2_passThroughMill_57 (γ : Gv)  (a1 : Int32) (a2 : Int32) (a3 : Int32) (a4 : Int32) (s0 : Int32) (h : Hst) : G γ RX2 cX2_passThroughMill 5 none [] vV 1 0 57 [(0, .ref (gad γ 13)), (1, .int a1), (2, .int a2), (3, .int a3), (4, .int a4)] [.int s0, .ref (gad γ 13)] h (jb_X2_passThroughMill_57 a1 a2 a3 a4 s0 h) := by
  unfold jb_X2_passThroughMill_57
  refine pf_RX2_82_13 (pc := 57) dX2_passThroughMill_57 ?_
  refine g_nmh (fun h1 => ?_)
  refine g_aload_n (pc := 60) dX2_passThroughMill_60 rfl 0 rfl ?_
  refine g_iload_n (pc := 61) dX2_passThroughMill_61 rfl 1 rfl ?_
  refine g_iconst (pc := 62) (v := 2) dX2_passThroughMill_62 (by decide) ?_
  refine g_icmp_ne (pc := 63) (tgt := 70) dX2_passThroughMill_63 (by decide) ?_ ?_
  · refine g_iconst (pc := 70) (v := 0) dX2_passThroughMill_70 (by decide) ?_
    exact g_sub [0, 2, 4] rfl (gjb_X2_passThroughMill_71 γ a2 a4 0 h1)
  · refine g_iload_n (pc := 66) dX2_passThroughMill_66 rfl 3 rfl ?_
    refine g_goto (pc := 67) (tgt := 71) dX2_passThroughMill_67 (by decide) ?_
    exact g_sub [0, 2, 4] rfl (gjb_X2_passThroughMill_71 γ a2 a4 a3 h1)
set_option maxRecDepth 20000 in
theorem gjb_X2_passThroughMill_32 (γ : Gv)  (a1 : Int32) (a2 : Int32) (s0 : Int32) (h : Hst) : G γ RX2 cX2_passThroughMill 5 none [] vV 1 0 32 [(0, .ref (gad γ 13)), (1, .int a1), (2, .int a2)] [.int s0] h (jb_X2_passThroughMill_32 a1 a2 s0 h) := by
  unfold jb_X2_passThroughMill_32
  refine g_istore_n (pc := 32) (lv' := [(3, .int s0), (0, .ref (gad γ 13)), (1, .int a1), (2, .int a2)]) dX2_passThroughMill_32 rfl (by decide) rfl ?_
  refine g_aload_n (pc := 33) dX2_passThroughMill_33 rfl 1 rfl ?_
  refine gf_RX2_79_13 (pc := 34) dX2_passThroughMill_34 ?_
  refine g_aload_n (pc := 37) dX2_passThroughMill_37 rfl 1 rfl ?_
  refine gf_RX2_44_13 (pc := 38) dX2_passThroughMill_38 ?_
  refine g_iadd (pc := 41) dX2_passThroughMill_41 ?_
  refine g_iload_n (pc := 42) dX2_passThroughMill_42 rfl 0 rfl ?_
  refine g_isub (pc := 43) dX2_passThroughMill_43 ?_
  refine g_nmi (fun x1 => ?_)
  refine g_istore (pc := 44) (lv' := [(4, .int x1), (3, .int s0), (0, .ref (gad γ 13)), (1, .int a1), (2, .int a2)]) dX2_passThroughMill_44 (by decide) rfl ?_
  refine g_aload_n (pc := 46) dX2_passThroughMill_46 rfl 2 rfl ?_
  refine g_iload_n (pc := 47) dX2_passThroughMill_47 rfl 3 rfl ?_
  refine g_iconst (pc := 48) (v := 2) dX2_passThroughMill_48 (by decide) ?_
  refine g_icmp_ne (pc := 49) (tgt := 56) dX2_passThroughMill_49 (by decide) ?_ ?_
  · refine g_iload_n (pc := 56) dX2_passThroughMill_56 rfl 1 rfl ?_
    exact g_sub [2, 3, 4, 1, 0] rfl (gjb_X2_passThroughMill_57 γ a1 a2 s0 x1 s0 h)
  · refine g_iconst (pc := 52) (v := 0) dX2_passThroughMill_52 (by decide) ?_
    refine g_goto (pc := 53) (tgt := 57) dX2_passThroughMill_53 (by decide) ?_
    exact g_sub [2, 3, 4, 1, 0] rfl (gjb_X2_passThroughMill_57 γ a1 a2 s0 x1 0 h)
set_option maxRecDepth 20000 in
theorem ge_X2_passThroughMill (γ : Gv) (p0 : Int32) (h : Hst) : G γ RX2 cX2_passThroughMill 5 none [] vV 1 0 0 (lv_args 0 [.ref (gad γ 13), .int p0]) [] h (f_X2_passThroughMill p0 h) := by
  show G γ RX2 cX2_passThroughMill 5 none [] vV 1 0 0 [(0, .ref (gad γ 13)), (1, .int p0)] [] h (f_X2_passThroughMill p0 h)
  unfold f_X2_passThroughMill
  refine g_aload_n (pc := 0) dX2_passThroughMill_0 rfl 0 rfl ?_
  refine gf_RX2_9_13 (pc := 1) dX2_passThroughMill_1 ?_
  refine gf_RX2_31_1 (pc := 4) dX2_passThroughMill_4 ?_
  refine g_aload_n (pc := 7) dX2_passThroughMill_7 rfl 0 rfl ?_
  refine gf_RX2_60_13 (pc := 8) dX2_passThroughMill_8 ?_
  refine g_iconst (pc := 11) (v := 1) dX2_passThroughMill_11 (by decide) ?_
  refine g_cI (pc := 12) (st := []) (fun r hr => gRunV (As := [.int (h.1 13 5), .int 1]) 3 (ge_X5_get_3 γ (h.1 13 5) 1 h) hr wv_RX2_35 rfl (Nat.le_of_ble_eq_true rfl) (gat_3 _ _) rfl rfl (Nat.le_of_ble_eq_true rfl) (Nat.le_of_ble_eq_true rfl) dX2_passThroughMill_12) (fun x2 h1 => ?_)
  refine g_istore_n (pc := 15) (lv' := [(2, .int x2), (0, .ref (gad γ 13)), (1, .int p0)]) dX2_passThroughMill_15 rfl (by decide) rfl ?_
  refine g_aload_n (pc := 16) dX2_passThroughMill_16 rfl 1 rfl ?_
  refine gf_RX2_40_13 (pc := 17) dX2_passThroughMill_17 ?_
  refine g_iload_n (pc := 20) dX2_passThroughMill_20 rfl 0 rfl ?_
  refine g_icmp_ne (pc := 21) (tgt := 28) dX2_passThroughMill_21 (by decide) ?_ ?_
  · refine g_aload_n (pc := 28) dX2_passThroughMill_28 rfl 1 rfl ?_
    refine gf_RX2_44_13 (pc := 29) dX2_passThroughMill_29 ?_
    exact g_sub [1, 2, 0] rfl (gjb_X2_passThroughMill_32 γ p0 x2 (h1.1 13 3) h1)
  · refine g_iconst (pc := 24) (v := 0) dX2_passThroughMill_24 (by decide) ?_
    refine g_goto (pc := 25) (tgt := 32) dX2_passThroughMill_25 (by decide) ?_
    exact g_sub [1, 2, 0] rfl (gjb_X2_passThroughMill_32 γ p0 x2 0 h1)
def jb_X2_step_28   (h : Hst) : Option (Int32 × Hst) :=
  (gzr 0 (some (0, h)))
def f_X2_step (p0 : Int32) (h : Hst) : Option (Int32 × Hst) :=
  gb (f_X2_lotInTurn p0 h) fun x2 h1 =>
  gl (hst h1 13 5 x2) fun h3 =>
  (if (h3.1 13 5) < 0 then
    (jb_X2_step_28 h3)
  else
    (if (h3.1 13 5) < 40 then
      gck (h3.1 13 5) 40 (gl (hst h3 14 (h3.1 13 5).toNatClampNeg (vp_nar .boolean 0)) fun h4 =>
      gbv (f_X2_weigh h4) fun h5 =>
      gbv (f_X2_passThroughMill p0 h5) fun h6 =>
      (gzr 1 (some (1, h6))))
    else
      (jb_X2_step_28 h3)))
set_option maxRecDepth 20000 in
theorem gjb_X2_step_28 (γ : Gv)   (h : Hst) : G γ RX2 cX2_step 2 (some .boolean) [] vI 2 0 28 [] [] h (jb_X2_step_28 h) := by
  unfold jb_X2_step_28
  refine g_iconst (pc := 28) (v := 0) dX2_step_28 (by decide) ?_
  exact g_zreturn (pc := 29) dX2_step_29 rfl rfl
set_option maxRecDepth 20000 in
theorem ge_X2_step (γ : Gv) (p0 : Int32) (h : Hst) : G γ RX2 cX2_step 2 (some .boolean) [] vI 2 0 0 (lv_args 0 [.ref (gad γ 13), .int p0]) [] h (f_X2_step p0 h) := by
  show G γ RX2 cX2_step 2 (some .boolean) [] vI 2 0 0 [(0, .ref (gad γ 13)), (1, .int p0)] [] h (f_X2_step p0 h)
  unfold f_X2_step
  refine g_aload_n (pc := 0) dX2_step_0 rfl 0 rfl ?_
  refine g_aload_n (pc := 1) dX2_step_1 rfl 0 rfl ?_
  refine g_iload_n (pc := 2) dX2_step_2 rfl 1 rfl ?_
  refine g_cI (pc := 3) (st := [.ref (gad γ 13)]) (fun r hr => gRunV (As := [.int p0]) 13 (ge_X2_lotInTurn γ p0 h) hr wv_RX2_57 rfl (Nat.le_of_ble_eq_true rfl) (gat_13 _ _) rfl rfl (Nat.le_of_ble_eq_true rfl) (Nat.le_of_ble_eq_true rfl) dX2_step_3) (fun x2 h1 => ?_)
  refine pf_RX2_60_13 (pc := 6) dX2_step_6 ?_
  refine g_nmh (fun h3 => ?_)
  refine g_aload_n (pc := 9) dX2_step_9 rfl 0 rfl ?_
  refine gf_RX2_60_13 (pc := 10) dX2_step_10 ?_
  refine g_if_lt (pc := 13) (tgt := 28) dX2_step_13 (by decide) ?_ ?_
  · exact g_sub [] rfl (gjb_X2_step_28 γ h3)
  · refine g_aload_n (pc := 16) dX2_step_16 rfl 0 rfl ?_
    refine gf_RX2_60_13 (pc := 17) dX2_step_17 ?_
    refine g_aload_n (pc := 20) dX2_step_20 rfl 0 rfl ?_
    refine gf_RX2_15_13 (pc := 21) dX2_step_21 ?_
    refine g_alen (pc := 24) (n := 0) (v := 40) 14 1 (gat_14 _ _) rfl rfl dX2_step_24 ?_
    refine g_icmp_lt (pc := 25) (tgt := 30) dX2_step_25 (by decide) ?_ ?_
    · refine g_aload_n (pc := 30) dX2_step_30 rfl 0 rfl ?_
      refine gf_RX2_15_13 (pc := 31) dX2_step_31 ?_
      refine g_aload_n (pc := 34) dX2_step_34 rfl 0 rfl ?_
      refine gf_RX2_60_13 (pc := 35) dX2_step_35 ?_
      refine g_iconst (pc := 38) (v := 0) dX2_step_38 (by decide) ?_
      refine g_zast (pc := 39) 14 (gat_14 _ _) (gset_14 _ _ _) dX2_step_39 ?_
      refine g_nmh (fun h4 => ?_)
      refine g_aload_n (pc := 40) dX2_step_40 rfl 0 rfl ?_
      refine g_cV (pc := 41) (st := []) (fun r hr => gRunV (As := []) 13 (ge_X2_weigh γ h4) hr wv_RX2_63 rfl (Nat.le_of_ble_eq_true rfl) (gat_13 _ _) rfl rfl (Nat.le_of_ble_eq_true rfl) (Nat.le_of_ble_eq_true rfl) dX2_step_41) (fun h5 => ?_)
      refine g_aload_n (pc := 44) dX2_step_44 rfl 0 rfl ?_
      refine g_iload_n (pc := 45) dX2_step_45 rfl 1 rfl ?_
      refine g_cV (pc := 46) (st := []) (fun r hr => gRunV (As := [.int p0]) 13 (ge_X2_passThroughMill γ p0 h5) hr wv_RX2_66 rfl (Nat.le_of_ble_eq_true rfl) (gat_13 _ _) rfl rfl (Nat.le_of_ble_eq_true rfl) (Nat.le_of_ble_eq_true rfl) dX2_step_46) (fun h6 => ?_)
      refine g_iconst (pc := 49) (v := 1) dX2_step_49 (by decide) ?_
      exact g_zreturn (pc := 50) dX2_step_50 rfl rfl
    · exact g_sub [] rfl (gjb_X2_step_28 γ h3)
def f_X2_lookAhead  (h : Hst) : Option (Int32 × Hst) :=
  gbv (f_X2_begin h) fun h1 =>
  gb (f_X3_get_6 5 h1) fun x3 h2 =>
  gb (f_X2_step x3 h2) fun x5 h4 =>
  (gzr x5 (some (x5, h4)))
set_option maxRecDepth 20000 in
theorem ge_X2_lookAhead (γ : Gv)  (h : Hst) : G γ RX2 cX2_lookAhead 1 (some .boolean) [] vI 3 0 0 (lv_args 0 [.ref (gad γ 13)]) [] h (f_X2_lookAhead h) := by
  show G γ RX2 cX2_lookAhead 1 (some .boolean) [] vI 3 0 0 [(0, .ref (gad γ 13))] [] h (f_X2_lookAhead h)
  unfold f_X2_lookAhead
  refine g_aload_n (pc := 0) dX2_lookAhead_0 rfl 0 rfl ?_
  refine g_cV (pc := 1) (st := []) (fun r hr => gRunV (As := []) 13 (ge_X2_begin γ h) hr wv_RX2_47 rfl (Nat.le_of_ble_eq_true rfl) (gat_13 _ _) rfl rfl (Nat.le_of_ble_eq_true rfl) (Nat.le_of_ble_eq_true rfl) dX2_lookAhead_1) (fun h1 => ?_)
  refine g_aload_n (pc := 4) dX2_lookAhead_4 rfl 0 rfl ?_
  refine g_aload_n (pc := 5) dX2_lookAhead_5 rfl 0 rfl ?_
  refine gf_RX2_9_13 (pc := 6) dX2_lookAhead_6 ?_
  refine gf_RX2_50_1 (pc := 9) dX2_lookAhead_9 ?_
  refine g_iconst (pc := 12) (v := 5) dX2_lookAhead_12 (by decide) ?_
  refine g_cI (pc := 13) (st := [.ref (gad γ 13)]) (fun r hr => gRunV (As := [.int 5]) 6 (ge_X3_get_6 γ 5 h1) hr wv_RX2_25 rfl (Nat.le_of_ble_eq_true rfl) (gat_6 _ _) rfl rfl (Nat.le_of_ble_eq_true rfl) (Nat.le_of_ble_eq_true rfl) dX2_lookAhead_13) (fun x3 h2 => ?_)
  refine g_cI (pc := 16) (st := []) (fun r hr => gRunV (As := [.int x3]) 13 (ge_X2_step γ x3 h2) hr wv_RX2_53 rfl (Nat.le_of_ble_eq_true rfl) (gat_13 _ _) rfl rfl (Nat.le_of_ble_eq_true rfl) (Nat.le_of_ble_eq_true rfl) dX2_lookAhead_16) (fun x5 h4 => ?_)
  exact g_zreturn (pc := 19) dX2_lookAhead_19 rfl rfl
def jb_X5_get_4_37  (s0 : Int32) (h : Hst) : Option (Int32 × Hst) :=
  (some (s0, h))
def jb_X5_get_4_36   (h : Hst) : Option (Int32 × Hst) :=
  (jb_X5_get_4_37 0 h)
def f_X5_get_4 (p0 : Int32) (p1 : Int32) (h : Hst) : Option (Int32 × Hst) :=
  gl ((472 + (p0 * 7)) + p1) fun x1 =>
  (if x1 < 0 then
    (jb_X5_get_4_36 h)
  else
    (if 553 ≤ x1 then
      (jb_X5_get_4_36 h)
    else
      gck x1 553 ((jb_X5_get_4_37 (h.1 8 x1.toNatClampNeg) h))))
set_option maxRecDepth 20000 in
theorem gjb_X5_get_4_37 (γ : Gv)  (s0 : Int32) (h : Hst) : G γ RX5 cX5_get 4 (some .int) [] vI 0 0 37 [] [.int s0] h (jb_X5_get_4_37 s0 h) := by
  unfold jb_X5_get_4_37
  exact g_ireturn (pc := 37) (ty := .int) dX5_get_37 rfl rfl rfl
set_option maxRecDepth 20000 in
theorem gjb_X5_get_4_36 (γ : Gv)   (h : Hst) : G γ RX5 cX5_get 4 (some .int) [] vI 0 0 36 [] [] h (jb_X5_get_4_36 h) := by
  unfold jb_X5_get_4_36
  refine g_iconst (pc := 36) (v := 0) dX5_get_36 (by decide) ?_
  exact gjb_X5_get_4_37 γ 0 h
set_option maxRecDepth 20000 in
theorem ge_X5_get_4 (γ : Gv) (p0 : Int32) (p1 : Int32) (h : Hst) : G γ RX5 cX5_get 4 (some .int) [] vI 0 0 0 (lv_args 0 [.ref (gad γ 4), .int p0, .int p1]) [] h (f_X5_get_4 p0 p1 h) := by
  show G γ RX5 cX5_get 4 (some .int) [] vI 0 0 0 [(0, .ref (gad γ 4)), (1, .int p0), (2, .int p1)] [] h (f_X5_get_4 p0 p1 h)
  unfold f_X5_get_4
  refine g_aload_n (pc := 0) dX5_get_0 rfl 0 rfl ?_
  refine gf_RX5_13_4 (pc := 1) dX5_get_1 ?_
  refine g_iload_n (pc := 4) dX5_get_4 rfl 1 rfl ?_
  refine g_aload_n (pc := 5) dX5_get_5 rfl 0 rfl ?_
  refine gf_RX5_17_4 (pc := 6) dX5_get_6 ?_
  refine g_imul (pc := 9) dX5_get_9 ?_
  refine g_iadd (pc := 10) dX5_get_10 ?_
  refine g_iload_n (pc := 11) dX5_get_11 rfl 2 rfl ?_
  refine g_iadd (pc := 12) dX5_get_12 ?_
  refine g_nmi (fun x1 => ?_)
  refine g_istore_n (pc := 13) (lv' := [(3, .int x1), (0, .ref (gad γ 4)), (1, .int p0), (2, .int p1)]) dX5_get_13 rfl (by decide) rfl ?_
  refine g_iload_n (pc := 14) dX5_get_14 rfl 0 rfl ?_
  refine g_if_lt (pc := 15) (tgt := 36) dX5_get_15 (by decide) ?_ ?_
  · exact g_sub [] rfl (gjb_X5_get_4_36 γ h)
  · refine g_iload_n (pc := 18) dX5_get_18 rfl 0 rfl ?_
    refine g_aload_n (pc := 19) dX5_get_19 rfl 1 rfl ?_
    refine gf_RX5_7_4 (pc := 20) dX5_get_20 ?_
    refine g_alen (pc := 23) (n := 0) (v := 553) 8 0 (gat_8 _ _) rfl rfl dX5_get_23 ?_
    refine g_icmp_ge (pc := 24) (tgt := 36) dX5_get_24 (by decide) ?_ ?_
    · exact g_sub [] rfl (gjb_X5_get_4_36 γ h)
    · refine g_aload_n (pc := 27) dX5_get_27 rfl 1 rfl ?_
      refine gf_RX5_7_4 (pc := 28) dX5_get_28 ?_
      refine g_iload_n (pc := 31) dX5_get_31 rfl 0 rfl ?_
      refine g_iald (pc := 32) 8 (gat_8 _ _) dX5_get_32 ?_
      refine g_goto (pc := 33) (tgt := 37) dX5_get_33 (by decide) ?_
      exact g_sub [] rfl (gjb_X5_get_4_37 γ (h.1 8 x1.toNatClampNeg) h)
def lp_X1_oilOf_4 : Nat → Int32 → Int32 → Int32 → Hst → Option (Int32 × Hst)
  | 0, _, _, _, _ => none
  | n + 1, a1, a2, a3, h =>
    (if 5 ≤ a3 then
      (some (a2, h))
    else
      gb (f_X5_get_4 a1 (2 + a3) h) fun x2 h1 =>
      gl (a2 + x2) fun x3 =>
      ((lp_X1_oilOf_4 n) a1 x3 (a3 + 1) h1))
def f_X1_oilOf (p0 : Int32) (h : Hst) : Option (Int32 × Hst) :=
  (lp_X1_oilOf_4 FU p0 0 0 h)
set_option maxRecDepth 20000 in
theorem glp_X1_oilOf_4 (γ : Gv)  : ∀ (n : Nat) (a1 : Int32) (a2 : Int32) (a3 : Int32) (h : Hst), G γ RX1 cX1_oilOf 4 (some .int) [] vI 1 0 4 [(0, .ref (gad γ 10)), (1, .int a1), (2, .int a2), (3, .int a3)] [] h (lp_X1_oilOf_4 n a1 a2 a3 h) := by
  intro n
  induction n with
  | zero => intro a1 a2 a3 h; exact g_none
  | succ n ih =>
    intro a1 a2 a3 h
    rw [lp_X1_oilOf_4]
    refine g_iload_n (pc := 4) dX1_oilOf_4 rfl 3 rfl ?_
    refine g_iconst (pc := 5) (v := 5) dX1_oilOf_5 (by decide) ?_
    refine g_icmp_ge (pc := 6) (tgt := 32) dX1_oilOf_6 (by decide) ?_ ?_
    · refine g_iload_n (pc := 32) dX1_oilOf_32 rfl 2 rfl ?_
      exact g_ireturn (pc := 33) (ty := .int) dX1_oilOf_33 rfl rfl rfl
    · refine g_iload_n (pc := 9) dX1_oilOf_9 rfl 2 rfl ?_
      refine g_aload_n (pc := 10) dX1_oilOf_10 rfl 0 rfl ?_
      refine gf_RX1_9_10 (pc := 11) dX1_oilOf_11 ?_
      refine gf_RX1_22_1 (pc := 14) dX1_oilOf_14 ?_
      refine g_iload_n (pc := 17) dX1_oilOf_17 rfl 1 rfl ?_
      refine g_iconst (pc := 18) (v := 2) dX1_oilOf_18 (by decide) ?_
      refine g_iload_n (pc := 19) dX1_oilOf_19 rfl 3 rfl ?_
      refine g_iadd (pc := 20) dX1_oilOf_20 ?_
      refine g_cI (pc := 21) (st := [.int a2]) (fun r hr => gRunV (As := [.int a1, .int (2 + a3)]) 4 (ge_X5_get_4 γ a1 (2 + a3) h) hr wv_RX1_28 rfl (Nat.le_of_ble_eq_true rfl) (gat_4 _ _) rfl rfl (Nat.le_of_ble_eq_true rfl) (Nat.le_of_ble_eq_true rfl) dX1_oilOf_21) (fun x2 h1 => ?_)
      refine g_iadd (pc := 24) dX1_oilOf_24 ?_
      refine g_nmi (fun x3 => ?_)
      refine g_istore_n (pc := 25) (lv' := [(2, .int x3), (0, .ref (gad γ 10)), (1, .int a1), (3, .int a3)]) dX1_oilOf_25 rfl (by decide) rfl ?_
      refine g_iinc (pc := 26) (q := 3) (v := a3 + 1) (lv' := [(3, .int (a3 + 1)), (2, .int x3), (0, .ref (gad γ 10)), (1, .int a1)]) dX1_oilOf_26 rfl rfl (by decide) rfl ?_
      refine g_goto (pc := 29) (tgt := 4) dX1_oilOf_29 (by decide) ?_
      exact g_sub [2, 3, 1, 0] rfl (ih a1 x3 (a3 + 1) h1)
set_option maxRecDepth 20000 in
theorem ge_X1_oilOf (γ : Gv) (p0 : Int32) (h : Hst) : G γ RX1 cX1_oilOf 4 (some .int) [] vI 1 0 0 (lv_args 0 [.ref (gad γ 10), .int p0]) [] h (f_X1_oilOf p0 h) := by
  show G γ RX1 cX1_oilOf 4 (some .int) [] vI 1 0 0 [(0, .ref (gad γ 10)), (1, .int p0)] [] h (f_X1_oilOf p0 h)
  unfold f_X1_oilOf
  refine g_iconst (pc := 0) (v := 0) dX1_oilOf_0 (by decide) ?_
  refine g_istore_n (pc := 1) (lv' := [(2, .int 0), (0, .ref (gad γ 10)), (1, .int p0)]) dX1_oilOf_1 rfl (by decide) rfl ?_
  refine g_iconst (pc := 2) (v := 0) dX1_oilOf_2 (by decide) ?_
  refine g_istore_n (pc := 3) (lv' := [(3, .int 0), (2, .int 0), (0, .ref (gad γ 10)), (1, .int p0)]) dX1_oilOf_3 rfl (by decide) rfl ?_
  exact g_sub [2, 3, 1, 0] rfl (glp_X1_oilOf_4 γ FU p0 0 0 h)
def f_X1_roomOf (p0 : Int32) (h : Hst) : Option (Int32 × Hst) :=
  gb (f_X5_get_4 p0 0 h) fun x2 h1 =>
  gb (f_X1_oilOf p0 h1) fun x4 h3 =>
  (some (x2 - x4, h3))
set_option maxRecDepth 20000 in
theorem ge_X1_roomOf (γ : Gv) (p0 : Int32) (h : Hst) : G γ RX1 cX1_roomOf 2 (some .int) [] vI 2 0 0 (lv_args 0 [.ref (gad γ 10), .int p0]) [] h (f_X1_roomOf p0 h) := by
  show G γ RX1 cX1_roomOf 2 (some .int) [] vI 2 0 0 [(0, .ref (gad γ 10)), (1, .int p0)] [] h (f_X1_roomOf p0 h)
  unfold f_X1_roomOf
  refine g_aload_n (pc := 0) dX1_roomOf_0 rfl 0 rfl ?_
  refine gf_RX1_9_10 (pc := 1) dX1_roomOf_1 ?_
  refine gf_RX1_22_1 (pc := 4) dX1_roomOf_4 ?_
  refine g_iload_n (pc := 7) dX1_roomOf_7 rfl 1 rfl ?_
  refine g_iconst (pc := 8) (v := 0) dX1_roomOf_8 (by decide) ?_
  refine g_cI (pc := 9) (st := []) (fun r hr => gRunV (As := [.int p0, .int 0]) 4 (ge_X5_get_4 γ p0 0 h) hr wv_RX1_28 rfl (Nat.le_of_ble_eq_true rfl) (gat_4 _ _) rfl rfl (Nat.le_of_ble_eq_true rfl) (Nat.le_of_ble_eq_true rfl) dX1_roomOf_9) (fun x2 h1 => ?_)
  refine g_aload_n (pc := 12) dX1_roomOf_12 rfl 0 rfl ?_
  refine g_iload_n (pc := 13) dX1_roomOf_13 rfl 1 rfl ?_
  refine g_cI (pc := 14) (st := [.int x2]) (fun r hr => gRunV (As := [.int p0]) 10 (ge_X1_oilOf γ p0 h1) hr wv_RX1_34 rfl (Nat.le_of_ble_eq_true rfl) (gat_10 _ _) rfl rfl (Nat.le_of_ble_eq_true rfl) (Nat.le_of_ble_eq_true rfl) dX1_roomOf_14) (fun x4 h3 => ?_)
  refine g_isub (pc := 17) dX1_roomOf_17 ?_
  exact g_ireturn (pc := 18) (ty := .int) dX1_roomOf_18 rfl rfl rfl
def jb_X0_gradeOfLot_29  (s0 : Int32) (h : Hst) : Option (Int32 × Hst) :=
  (some (s0, h))
def f_X0_gradeOfLot (p0 : Int32) (h : Hst) : Option (Int32 × Hst) :=
  gb (f_X5_get_3 p0 3 h) fun x2 h1 =>
  (if 8 < x2 then
    (if 20 < x2 then
      (jb_X0_gradeOfLot_29 2 h1)
    else
      (jb_X0_gradeOfLot_29 1 h1))
  else
    (some (0, h1)))
set_option maxRecDepth 20000 in
theorem gjb_X0_gradeOfLot_29 (γ : Gv)  (s0 : Int32) (h : Hst) : G γ RX0 cX0_gradeOfLot 3 (some .int) [] vI 1 0 29 [] [.int s0] h (jb_X0_gradeOfLot_29 s0 h) := by
  unfold jb_X0_gradeOfLot_29
  exact g_ireturn (pc := 29) (ty := .int) dX0_gradeOfLot_29 rfl rfl rfl
set_option maxRecDepth 20000 in
theorem ge_X0_gradeOfLot (γ : Gv) (p0 : Int32) (h : Hst) : G γ RX0 cX0_gradeOfLot 3 (some .int) [] vI 1 0 0 (lv_args 0 [.ref (gad γ 1), .int p0]) [] h (f_X0_gradeOfLot p0 h) := by
  show G γ RX0 cX0_gradeOfLot 3 (some .int) [] vI 1 0 0 [(0, .ref (gad γ 1)), (1, .int p0)] [] h (f_X0_gradeOfLot p0 h)
  unfold f_X0_gradeOfLot
  refine g_aload_n (pc := 0) dX0_gradeOfLot_0 rfl 0 rfl ?_
  refine gf_RX0_27_1 (pc := 1) dX0_gradeOfLot_1 ?_
  refine g_iload_n (pc := 4) dX0_gradeOfLot_4 rfl 1 rfl ?_
  refine g_iconst (pc := 5) (v := 3) dX0_gradeOfLot_5 (by decide) ?_
  refine g_cI (pc := 6) (st := []) (fun r hr => gRunV (As := [.int p0, .int 3]) 3 (ge_X5_get_3 γ p0 3 h) hr wv_RX0_61 rfl (Nat.le_of_ble_eq_true rfl) (gat_3 _ _) rfl rfl (Nat.le_of_ble_eq_true rfl) (Nat.le_of_ble_eq_true rfl) dX0_gradeOfLot_6) (fun x2 h1 => ?_)
  refine g_istore_n (pc := 9) (lv' := [(2, .int x2), (0, .ref (gad γ 1)), (1, .int p0)]) dX0_gradeOfLot_9 rfl (by decide) rfl ?_
  refine g_iload_n (pc := 10) dX0_gradeOfLot_10 rfl 0 rfl ?_
  refine g_bipush (pc := 11) (v := 8) dX0_gradeOfLot_11 (by decide) ?_
  refine g_icmp_gt (pc := 13) (tgt := 18) dX0_gradeOfLot_13 (by decide) ?_ ?_
  · refine g_iload_n (pc := 18) dX0_gradeOfLot_18 rfl 0 rfl ?_
    refine g_bipush (pc := 19) (v := 20) dX0_gradeOfLot_19 (by decide) ?_
    refine g_icmp_gt (pc := 21) (tgt := 28) dX0_gradeOfLot_21 (by decide) ?_ ?_
    · refine g_iconst (pc := 28) (v := 2) dX0_gradeOfLot_28 (by decide) ?_
      exact g_sub [] rfl (gjb_X0_gradeOfLot_29 γ 2 h1)
    · refine g_iconst (pc := 24) (v := 1) dX0_gradeOfLot_24 (by decide) ?_
      refine g_goto (pc := 25) (tgt := 29) dX0_gradeOfLot_25 (by decide) ?_
      exact g_sub [] rfl (gjb_X0_gradeOfLot_29 γ 1 h1)
  · refine g_iconst (pc := 16) (v := 0) dX0_gradeOfLot_16 (by decide) ?_
    exact g_ireturn (pc := 17) (ty := .int) dX0_gradeOfLot_17 rfl rfl rfl
def jb_X1_gradeOf_24  (s0 : Int32) (h : Hst) : Option (Int32 × Hst) :=
  (some (s0, h))
def f_X1_gradeOf (p0 : Int32) (h : Hst) : Option (Int32 × Hst) :=
  gb (f_X1_oilOf p0 h) fun x2 h1 =>
  (if x2 ≤ 0 then
    (jb_X1_gradeOf_24 (-1) h1)
  else
    gb (f_X5_get_4 p0 1 h1) fun x4 h3 =>
    (jb_X1_gradeOf_24 x4 h3))
set_option maxRecDepth 20000 in
theorem gjb_X1_gradeOf_24 (γ : Gv)  (s0 : Int32) (h : Hst) : G γ RX1 cX1_gradeOf 2 (some .int) [] vI 2 0 24 [] [.int s0] h (jb_X1_gradeOf_24 s0 h) := by
  unfold jb_X1_gradeOf_24
  exact g_ireturn (pc := 24) (ty := .int) dX1_gradeOf_24 rfl rfl rfl
set_option maxRecDepth 20000 in
theorem ge_X1_gradeOf (γ : Gv) (p0 : Int32) (h : Hst) : G γ RX1 cX1_gradeOf 2 (some .int) [] vI 2 0 0 (lv_args 0 [.ref (gad γ 10), .int p0]) [] h (f_X1_gradeOf p0 h) := by
  show G γ RX1 cX1_gradeOf 2 (some .int) [] vI 2 0 0 [(0, .ref (gad γ 10)), (1, .int p0)] [] h (f_X1_gradeOf p0 h)
  unfold f_X1_gradeOf
  refine g_aload_n (pc := 0) dX1_gradeOf_0 rfl 0 rfl ?_
  refine g_iload_n (pc := 1) dX1_gradeOf_1 rfl 1 rfl ?_
  refine g_cI (pc := 2) (st := []) (fun r hr => gRunV (As := [.int p0]) 10 (ge_X1_oilOf γ p0 h) hr wv_RX1_34 rfl (Nat.le_of_ble_eq_true rfl) (gat_10 _ _) rfl rfl (Nat.le_of_ble_eq_true rfl) (Nat.le_of_ble_eq_true rfl) dX1_gradeOf_2) (fun x2 h1 => ?_)
  refine g_if_le (pc := 5) (tgt := 23) dX1_gradeOf_5 (by decide) ?_ ?_
  · refine g_iconst (pc := 23) (v := (-1)) dX1_gradeOf_23 (by decide) ?_
    exact g_sub [] rfl (gjb_X1_gradeOf_24 γ (-1) h1)
  · refine g_aload_n (pc := 8) dX1_gradeOf_8 rfl 0 rfl ?_
    refine gf_RX1_9_10 (pc := 9) dX1_gradeOf_9 ?_
    refine gf_RX1_22_1 (pc := 12) dX1_gradeOf_12 ?_
    refine g_iload_n (pc := 15) dX1_gradeOf_15 rfl 1 rfl ?_
    refine g_iconst (pc := 16) (v := 1) dX1_gradeOf_16 (by decide) ?_
    refine g_cI (pc := 17) (st := []) (fun r hr => gRunV (As := [.int p0, .int 1]) 4 (ge_X5_get_4 γ p0 1 h1) hr wv_RX1_28 rfl (Nat.le_of_ble_eq_true rfl) (gat_4 _ _) rfl rfl (Nat.le_of_ble_eq_true rfl) (Nat.le_of_ble_eq_true rfl) dX1_gradeOf_17) (fun x4 h3 => ?_)
    refine g_goto (pc := 20) (tgt := 24) dX1_gradeOf_20 (by decide) ?_
    exact g_sub [] rfl (gjb_X1_gradeOf_24 γ x4 h3)
def jb_X1_admits_28  (s0 : Int32) (h : Hst) : Option (Int32 × Hst) :=
  (gzr s0 (some (s0, h)))
def jb_X1_admits_23   (h : Hst) : Option (Int32 × Hst) :=
  (jb_X1_admits_28 1 h)
def f_X1_admits (p0 : Int32) (p1 : Int32) (p2 : Int32) (h : Hst) : Option (Int32 × Hst) :=
  gb (f_X1_gradeOf p0 h) fun x2 h1 =>
  (if p2 = 0 then
    (if x2 = (-1) then
      (jb_X1_admits_23 h1)
    else
      (if x2 = p1 then
        (jb_X1_admits_23 h1)
      else
        (jb_X1_admits_28 0 h1)))
  else
    (jb_X1_admits_23 h1))
set_option maxRecDepth 20000 in
theorem gjb_X1_admits_28 (γ : Gv)  (s0 : Int32) (h : Hst) : G γ RX1 cX1_admits 5 (some .boolean) [] vI 3 0 28 [] [.int s0] h (jb_X1_admits_28 s0 h) := by
  unfold jb_X1_admits_28
  exact g_zreturn (pc := 28) dX1_admits_28 rfl rfl
set_option maxRecDepth 20000 in
theorem gjb_X1_admits_23 (γ : Gv)   (h : Hst) : G γ RX1 cX1_admits 5 (some .boolean) [] vI 3 0 23 [] [] h (jb_X1_admits_23 h) := by
  unfold jb_X1_admits_23
  refine g_iconst (pc := 23) (v := 1) dX1_admits_23 (by decide) ?_
  refine g_goto (pc := 24) (tgt := 28) dX1_admits_24 (by decide) ?_
  exact gjb_X1_admits_28 γ 1 h
set_option maxRecDepth 20000 in
theorem ge_X1_admits (γ : Gv) (p0 : Int32) (p1 : Int32) (p2 : Int32) (h : Hst) : G γ RX1 cX1_admits 5 (some .boolean) [] vI 3 0 0 (lv_args 0 [.ref (gad γ 10), .int p0, .int p1, .int p2]) [] h (f_X1_admits p0 p1 p2 h) := by
  show G γ RX1 cX1_admits 5 (some .boolean) [] vI 3 0 0 [(0, .ref (gad γ 10)), (1, .int p0), (2, .int p1), (3, .int p2)] [] h (f_X1_admits p0 p1 p2 h)
  unfold f_X1_admits
  refine g_aload_n (pc := 0) dX1_admits_0 rfl 0 rfl ?_
  refine g_iload_n (pc := 1) dX1_admits_1 rfl 1 rfl ?_
  refine g_cI (pc := 2) (st := []) (fun r hr => gRunV (As := [.int p0]) 10 (ge_X1_gradeOf γ p0 h) hr wv_RX1_38 rfl (Nat.le_of_ble_eq_true rfl) (gat_10 _ _) rfl rfl (Nat.le_of_ble_eq_true rfl) (Nat.le_of_ble_eq_true rfl) dX1_admits_2) (fun x2 h1 => ?_)
  refine g_istore (pc := 5) (lv' := [(4, .int x2), (0, .ref (gad γ 10)), (1, .int p0), (2, .int p1), (3, .int p2)]) dX1_admits_5 (by decide) rfl ?_
  refine g_iload_n (pc := 7) dX1_admits_7 rfl 4 rfl ?_
  refine g_if_ne (pc := 8) (tgt := 23) dX1_admits_8 (by decide) ?_ ?_
  · exact g_sub [] rfl (gjb_X1_admits_23 γ h1)
  · refine g_iload (pc := 11) dX1_admits_11 0 rfl ?_
    refine g_iconst (pc := 13) (v := (-1)) dX1_admits_13 (by decide) ?_
    refine g_icmp_eq (pc := 14) (tgt := 23) dX1_admits_14 (by decide) ?_ ?_
    · exact g_sub [] rfl (gjb_X1_admits_23 γ h1)
    · refine g_iload (pc := 17) dX1_admits_17 0 rfl ?_
      refine g_iload_n (pc := 19) dX1_admits_19 rfl 3 rfl ?_
      refine g_icmp_ne (pc := 20) (tgt := 27) dX1_admits_20 (by decide) ?_ ?_
      · refine g_iconst (pc := 27) (v := 0) dX1_admits_27 (by decide) ?_
        exact g_sub [] rfl (gjb_X1_admits_28 γ 0 h1)
      · exact g_sub [] rfl (gjb_X1_admits_23 γ h1)
def jb_X6_reasonAgainstPress_70   (h : Hst) : Option (Int32 × Hst) :=
  (some (0, h))
def f_X6_reasonAgainstPress (p0 : Int32) (p1 : Int32) (h : Hst) : Option (Int32 × Hst) :=
  gb (f_X2_lookAhead h) fun x2 h1 =>
  (if x2 = 0 then
    (some (1, h1))
  else
    gb (f_X1_roomOf p0 h1) fun x4 h3 =>
    (if (h1.1 13 11) ≤ x4 then
      (if (h3.1 13 11) ≤ 0 then
        (jb_X6_reasonAgainstPress_70 h3)
      else
        gb (f_X0_gradeOfLot (h3.1 13 5) h3) fun x6 h5 =>
        gb (f_X1_admits p0 x6 p1 h5) fun x8 h7 =>
        (if x8 = 0 then
          (some (3, h7))
        else
          (jb_X6_reasonAgainstPress_70 h7)))
    else
      (some (2, h3))))
set_option maxRecDepth 20000 in
theorem gjb_X6_reasonAgainstPress_70 (γ : Gv)   (h : Hst) : G γ RX6 cX6_reasonAgainstPress 3 (some .int) [] vI 4 0 70 [] [] h (jb_X6_reasonAgainstPress_70 h) := by
  unfold jb_X6_reasonAgainstPress_70
  refine g_iconst (pc := 70) (v := 0) dX6_reasonAgainstPress_70 (by decide) ?_
  exact g_ireturn (pc := 71) (ty := .int) dX6_reasonAgainstPress_71 rfl rfl rfl
set_option maxRecDepth 20000 in
theorem ge_X6_reasonAgainstPress (γ : Gv) (p0 : Int32) (p1 : Int32) (h : Hst) : G γ RX6 cX6_reasonAgainstPress 3 (some .int) [] vI 4 0 0 (lv_args 0 [.ref (gad γ 0), .int p0, .int p1]) [] h (f_X6_reasonAgainstPress p0 p1 h) := by
  show G γ RX6 cX6_reasonAgainstPress 3 (some .int) [] vI 4 0 0 [(0, .ref (gad γ 0)), (1, .int p0), (2, .int p1)] [] h (f_X6_reasonAgainstPress p0 p1 h)
  unfold f_X6_reasonAgainstPress
  refine g_aload_n (pc := 0) dX6_reasonAgainstPress_0 rfl 0 rfl ?_
  refine gf_RX6_28_0 (pc := 1) dX6_reasonAgainstPress_1 ?_
  refine g_cI (pc := 4) (st := []) (fun r hr => gRunV (As := []) 13 (ge_X2_lookAhead γ h) hr wv_RX6_302 rfl (Nat.le_of_ble_eq_true rfl) (gat_13 _ _) rfl rfl (Nat.le_of_ble_eq_true rfl) (Nat.le_of_ble_eq_true rfl) dX6_reasonAgainstPress_4) (fun x2 h1 => ?_)
  refine g_if_ne (pc := 7) (tgt := 12) dX6_reasonAgainstPress_7 (by decide) ?_ ?_
  · refine g_aload_n (pc := 12) dX6_reasonAgainstPress_12 rfl 0 rfl ?_
    refine gf_RX6_28_0 (pc := 13) dX6_reasonAgainstPress_13 ?_
    refine gf_RX6_308_13 (pc := 16) dX6_reasonAgainstPress_16 ?_
    refine g_aload_n (pc := 19) dX6_reasonAgainstPress_19 rfl 0 rfl ?_
    refine gf_RX6_21_0 (pc := 20) dX6_reasonAgainstPress_20 ?_
    refine g_iload_n (pc := 23) dX6_reasonAgainstPress_23 rfl 1 rfl ?_
    refine g_cI (pc := 24) (st := [.int (h1.1 13 11)]) (fun r hr => gRunV (As := [.int p0]) 10 (ge_X1_roomOf γ p0 h1) hr wv_RX6_219 rfl (Nat.le_of_ble_eq_true rfl) (gat_10 _ _) rfl rfl (Nat.le_of_ble_eq_true rfl) (Nat.le_of_ble_eq_true rfl) dX6_reasonAgainstPress_24) (fun x4 h3 => ?_)
    refine g_icmp_le (pc := 27) (tgt := 32) dX6_reasonAgainstPress_27 (by decide) ?_ ?_
    · refine g_aload_n (pc := 32) dX6_reasonAgainstPress_32 rfl 0 rfl ?_
      refine gf_RX6_28_0 (pc := 33) dX6_reasonAgainstPress_33 ?_
      refine gf_RX6_308_13 (pc := 36) dX6_reasonAgainstPress_36 ?_
      refine g_if_le (pc := 39) (tgt := 70) dX6_reasonAgainstPress_39 (by decide) ?_ ?_
      · exact g_sub [] rfl (gjb_X6_reasonAgainstPress_70 γ h3)
      · refine g_aload_n (pc := 42) dX6_reasonAgainstPress_42 rfl 0 rfl ?_
        refine gf_RX6_21_0 (pc := 43) dX6_reasonAgainstPress_43 ?_
        refine g_iload_n (pc := 46) dX6_reasonAgainstPress_46 rfl 1 rfl ?_
        refine g_aload_n (pc := 47) dX6_reasonAgainstPress_47 rfl 0 rfl ?_
        refine gf_RX6_12_0 (pc := 48) dX6_reasonAgainstPress_48 ?_
        refine g_aload_n (pc := 51) dX6_reasonAgainstPress_51 rfl 0 rfl ?_
        refine gf_RX6_28_0 (pc := 52) dX6_reasonAgainstPress_52 ?_
        refine gf_RX6_168_13 (pc := 55) dX6_reasonAgainstPress_55 ?_
        refine g_cI (pc := 58) (st := [.int p0, .ref (gad γ 10)]) (fun r hr => gRunV (As := [.int (h3.1 13 5)]) 1 (ge_X0_gradeOfLot γ (h3.1 13 5) h3) hr wv_RX6_187 rfl (Nat.le_of_ble_eq_true rfl) (gat_1 _ _) rfl rfl (Nat.le_of_ble_eq_true rfl) (Nat.le_of_ble_eq_true rfl) dX6_reasonAgainstPress_58) (fun x6 h5 => ?_)
        refine g_iload_n (pc := 61) dX6_reasonAgainstPress_61 rfl 2 rfl ?_
        refine g_cI (pc := 62) (st := []) (fun r hr => gRunV (As := [.int p0, .int x6, .int p1]) 10 (ge_X1_admits γ p0 x6 p1 h5) hr wv_RX6_222 rfl (Nat.le_of_ble_eq_true rfl) (gat_10 _ _) rfl rfl (Nat.le_of_ble_eq_true rfl) (Nat.le_of_ble_eq_true rfl) dX6_reasonAgainstPress_62) (fun x8 h7 => ?_)
        refine g_if_ne (pc := 65) (tgt := 70) dX6_reasonAgainstPress_65 (by decide) ?_ ?_
        · exact g_sub [] rfl (gjb_X6_reasonAgainstPress_70 γ h7)
        · refine g_iconst (pc := 68) (v := 3) dX6_reasonAgainstPress_68 (by decide) ?_
          exact g_ireturn (pc := 69) (ty := .int) dX6_reasonAgainstPress_69 rfl rfl rfl
    · refine g_iconst (pc := 30) (v := 2) dX6_reasonAgainstPress_30 (by decide) ?_
      exact g_ireturn (pc := 31) (ty := .int) dX6_reasonAgainstPress_31 rfl rfl rfl
  · refine g_iconst (pc := 10) (v := 1) dX6_reasonAgainstPress_10 (by decide) ?_
    exact g_ireturn (pc := 11) (ty := .int) dX6_reasonAgainstPress_11 rfl rfl rfl
def f_X5_add_5 (p0 : Int32) (p1 : Int32) (p2 : Int32) (h : Hst) : Option (Hst) :=
  gb (f_X5_get_5 p0 p1 h) fun x2 h1 =>
  gbv (f_X5_put_5 p0 p1 (x2 + p2) h1) fun h3 =>
  (some h3)
set_option maxRecDepth 20000 in
theorem ge_X5_add_5 (γ : Gv) (p0 : Int32) (p1 : Int32) (p2 : Int32) (h : Hst) : G γ RX5 cX5_add 4 none [] vV 1 0 0 (lv_args 0 [.ref (gad γ 5), .int p0, .int p1, .int p2]) [] h (f_X5_add_5 p0 p1 p2 h) := by
  show G γ RX5 cX5_add 4 none [] vV 1 0 0 [(0, .ref (gad γ 5)), (1, .int p0), (2, .int p1), (3, .int p2)] [] h (f_X5_add_5 p0 p1 p2 h)
  unfold f_X5_add_5
  refine g_aload_n (pc := 0) dX5_add_0 rfl 0 rfl ?_
  refine g_iload_n (pc := 1) dX5_add_1 rfl 1 rfl ?_
  refine g_iload_n (pc := 2) dX5_add_2 rfl 2 rfl ?_
  refine g_aload_n (pc := 3) dX5_add_3 rfl 0 rfl ?_
  refine g_iload_n (pc := 4) dX5_add_4 rfl 1 rfl ?_
  refine g_iload_n (pc := 5) dX5_add_5 rfl 2 rfl ?_
  refine g_cI (pc := 6) (st := [.int p1, .int p0, .ref (gad γ 5)]) (fun r hr => gRunV (As := [.int p0, .int p1]) 5 (ge_X5_get_5 γ p0 p1 h) hr wv_RX5_20 rfl (Nat.le_of_ble_eq_true rfl) (gat_5 _ _) rfl rfl (Nat.le_of_ble_eq_true rfl) (Nat.le_of_ble_eq_true rfl) dX5_add_6) (fun x2 h1 => ?_)
  refine g_iload_n (pc := 9) dX5_add_9 rfl 3 rfl ?_
  refine g_iadd (pc := 10) dX5_add_10 ?_
  refine g_cV (pc := 11) (st := []) (fun r hr => gRunV (As := [.int p0, .int p1, .int (x2 + p2)]) 5 (ge_X5_put_5 γ p0 p1 (x2 + p2) h1) hr wv_RX5_24 rfl (Nat.le_of_ble_eq_true rfl) (gat_5 _ _) rfl rfl (Nat.le_of_ble_eq_true rfl) (Nat.le_of_ble_eq_true rfl) dX5_add_11) (fun h3 => ?_)
  exact g_return (pc := 14) dX5_add_14 rfl rfl
def jb_X6_loseByCleaning_29   (h : Hst) : Option (Hst) :=
  (some h)
def f_X6_loseByCleaning (p0 : Int32) (p1 : Int32) (h : Hst) : Option (Hst) :=
  (if p1 ≤ 0 then
    (jb_X6_loseByCleaning_29 h)
  else
    gbv (f_X5_add_5 p0 4 p1 h) fun h1 =>
    gbv (f_X3_add_7 5 1 h1) fun h2 =>
    (jb_X6_loseByCleaning_29 h2))
set_option maxRecDepth 20000 in
theorem gjb_X6_loseByCleaning_29 (γ : Gv)   (h : Hst) : G γ RX6 cX6_loseByCleaning 3 none [] vV 2 0 29 [] [] h (jb_X6_loseByCleaning_29 h) := by
  unfold jb_X6_loseByCleaning_29
  exact g_return (pc := 29) dX6_loseByCleaning_29 rfl rfl
set_option maxRecDepth 20000 in
theorem ge_X6_loseByCleaning (γ : Gv) (p0 : Int32) (p1 : Int32) (h : Hst) : G γ RX6 cX6_loseByCleaning 3 none [] vV 2 0 0 (lv_args 0 [.ref (gad γ 0), .int p0, .int p1]) [] h (f_X6_loseByCleaning p0 p1 h) := by
  show G γ RX6 cX6_loseByCleaning 3 none [] vV 2 0 0 [(0, .ref (gad γ 0)), (1, .int p0), (2, .int p1)] [] h (f_X6_loseByCleaning p0 p1 h)
  unfold f_X6_loseByCleaning
  refine g_iload_n (pc := 0) dX6_loseByCleaning_0 rfl 2 rfl ?_
  refine g_if_le (pc := 1) (tgt := 29) dX6_loseByCleaning_1 (by decide) ?_ ?_
  · exact g_sub [] rfl (gjb_X6_loseByCleaning_29 γ h)
  · refine g_aload_n (pc := 4) dX6_loseByCleaning_4 rfl 0 rfl ?_
    refine gf_RX6_12_0 (pc := 5) dX6_loseByCleaning_5 ?_
    refine gf_RX6_113_1 (pc := 8) dX6_loseByCleaning_8 ?_
    refine g_iload_n (pc := 11) dX6_loseByCleaning_11 rfl 1 rfl ?_
    refine g_iconst (pc := 12) (v := 4) dX6_loseByCleaning_12 (by decide) ?_
    refine g_iload_n (pc := 13) dX6_loseByCleaning_13 rfl 2 rfl ?_
    refine g_cV (pc := 14) (st := []) (fun r hr => gRunV (As := [.int p0, .int 4, .int p1]) 5 (ge_X5_add_5 γ p0 4 p1 h) hr wv_RX6_185 rfl (Nat.le_of_ble_eq_true rfl) (gat_5 _ _) rfl rfl (Nat.le_of_ble_eq_true rfl) (Nat.le_of_ble_eq_true rfl) dX6_loseByCleaning_14) (fun h1 => ?_)
    refine g_aload_n (pc := 17) dX6_loseByCleaning_17 rfl 0 rfl ?_
    refine gf_RX6_12_0 (pc := 18) dX6_loseByCleaning_18 ?_
    refine gf_RX6_47_1 (pc := 21) dX6_loseByCleaning_21 ?_
    refine g_iconst (pc := 24) (v := 5) dX6_loseByCleaning_24 (by decide) ?_
    refine g_iconst (pc := 25) (v := 1) dX6_loseByCleaning_25 (by decide) ?_
    refine g_cV (pc := 26) (st := []) (fun r hr => gRunV (As := [.int 5, .int 1]) 7 (ge_X3_add_7 γ 5 1 h1) hr wv_RX6_67 rfl (Nat.le_of_ble_eq_true rfl) (gat_7 _ _) rfl rfl (Nat.le_of_ble_eq_true rfl) (Nat.le_of_ble_eq_true rfl) dX6_loseByCleaning_26) (fun h2 => ?_)
    exact g_sub [] rfl (gjb_X6_loseByCleaning_29 γ h2)
def jb_X5_get_2_37  (s0 : Int32) (h : Hst) : Option (Int32 × Hst) :=
  (some (s0, h))
def jb_X5_get_2_36   (h : Hst) : Option (Int32 × Hst) :=
  (jb_X5_get_2_37 0 h)
def f_X5_get_2 (p0 : Int32) (p1 : Int32) (h : Hst) : Option (Int32 × Hst) :=
  gl ((0 + (p0 * 4)) + p1) fun x1 =>
  (if x1 < 0 then
    (jb_X5_get_2_36 h)
  else
    (if 553 ≤ x1 then
      (jb_X5_get_2_36 h)
    else
      gck x1 553 ((jb_X5_get_2_37 (h.1 8 x1.toNatClampNeg) h))))
set_option maxRecDepth 20000 in
theorem gjb_X5_get_2_37 (γ : Gv)  (s0 : Int32) (h : Hst) : G γ RX5 cX5_get 4 (some .int) [] vI 0 0 37 [] [.int s0] h (jb_X5_get_2_37 s0 h) := by
  unfold jb_X5_get_2_37
  exact g_ireturn (pc := 37) (ty := .int) dX5_get_37 rfl rfl rfl
set_option maxRecDepth 20000 in
theorem gjb_X5_get_2_36 (γ : Gv)   (h : Hst) : G γ RX5 cX5_get 4 (some .int) [] vI 0 0 36 [] [] h (jb_X5_get_2_36 h) := by
  unfold jb_X5_get_2_36
  refine g_iconst (pc := 36) (v := 0) dX5_get_36 (by decide) ?_
  exact gjb_X5_get_2_37 γ 0 h
set_option maxRecDepth 20000 in
theorem ge_X5_get_2 (γ : Gv) (p0 : Int32) (p1 : Int32) (h : Hst) : G γ RX5 cX5_get 4 (some .int) [] vI 0 0 0 (lv_args 0 [.ref (gad γ 2), .int p0, .int p1]) [] h (f_X5_get_2 p0 p1 h) := by
  show G γ RX5 cX5_get 4 (some .int) [] vI 0 0 0 [(0, .ref (gad γ 2)), (1, .int p0), (2, .int p1)] [] h (f_X5_get_2 p0 p1 h)
  unfold f_X5_get_2
  refine g_aload_n (pc := 0) dX5_get_0 rfl 0 rfl ?_
  refine gf_RX5_13_2 (pc := 1) dX5_get_1 ?_
  refine g_iload_n (pc := 4) dX5_get_4 rfl 1 rfl ?_
  refine g_aload_n (pc := 5) dX5_get_5 rfl 0 rfl ?_
  refine gf_RX5_17_2 (pc := 6) dX5_get_6 ?_
  refine g_imul (pc := 9) dX5_get_9 ?_
  refine g_iadd (pc := 10) dX5_get_10 ?_
  refine g_iload_n (pc := 11) dX5_get_11 rfl 2 rfl ?_
  refine g_iadd (pc := 12) dX5_get_12 ?_
  refine g_nmi (fun x1 => ?_)
  refine g_istore_n (pc := 13) (lv' := [(3, .int x1), (0, .ref (gad γ 2)), (1, .int p0), (2, .int p1)]) dX5_get_13 rfl (by decide) rfl ?_
  refine g_iload_n (pc := 14) dX5_get_14 rfl 0 rfl ?_
  refine g_if_lt (pc := 15) (tgt := 36) dX5_get_15 (by decide) ?_ ?_
  · exact g_sub [] rfl (gjb_X5_get_2_36 γ h)
  · refine g_iload_n (pc := 18) dX5_get_18 rfl 0 rfl ?_
    refine g_aload_n (pc := 19) dX5_get_19 rfl 1 rfl ?_
    refine gf_RX5_7_2 (pc := 20) dX5_get_20 ?_
    refine g_alen (pc := 23) (n := 0) (v := 553) 8 0 (gat_8 _ _) rfl rfl dX5_get_23 ?_
    refine g_icmp_ge (pc := 24) (tgt := 36) dX5_get_24 (by decide) ?_ ?_
    · exact g_sub [] rfl (gjb_X5_get_2_36 γ h)
    · refine g_aload_n (pc := 27) dX5_get_27 rfl 1 rfl ?_
      refine gf_RX5_7_2 (pc := 28) dX5_get_28 ?_
      refine g_iload_n (pc := 31) dX5_get_31 rfl 0 rfl ?_
      refine g_iald (pc := 32) 8 (gat_8 _ _) dX5_get_32 ?_
      refine g_goto (pc := 33) (tgt := 37) dX5_get_33 (by decide) ?_
      exact g_sub [] rfl (gjb_X5_get_2_37 γ (h.1 8 x1.toNatClampNeg) h)
def jb_X5_put_2_38   (h : Hst) : Option (Hst) :=
  (some h)
def f_X5_put_2 (p0 : Int32) (p1 : Int32) (p2 : Int32) (h : Hst) : Option (Hst) :=
  gl ((0 + (p0 * 4)) + p1) fun x1 =>
  (if x1 < 0 then
    (jb_X5_put_2_38 h)
  else
    (if 553 ≤ x1 then
      (jb_X5_put_2_38 h)
    else
      gck x1 553 (gl (hst h 8 x1.toNatClampNeg p2) fun h2 =>
      (jb_X5_put_2_38 h2))))
set_option maxRecDepth 20000 in
theorem gjb_X5_put_2_38 (γ : Gv)   (h : Hst) : G γ RX5 cX5_put 5 none [] vV 0 0 38 [] [] h (jb_X5_put_2_38 h) := by
  unfold jb_X5_put_2_38
  exact g_return (pc := 38) dX5_put_38 rfl rfl
set_option maxRecDepth 20000 in
theorem ge_X5_put_2 (γ : Gv) (p0 : Int32) (p1 : Int32) (p2 : Int32) (h : Hst) : G γ RX5 cX5_put 5 none [] vV 0 0 0 (lv_args 0 [.ref (gad γ 2), .int p0, .int p1, .int p2]) [] h (f_X5_put_2 p0 p1 p2 h) := by
  show G γ RX5 cX5_put 5 none [] vV 0 0 0 [(0, .ref (gad γ 2)), (1, .int p0), (2, .int p1), (3, .int p2)] [] h (f_X5_put_2 p0 p1 p2 h)
  unfold f_X5_put_2
  refine g_aload_n (pc := 0) dX5_put_0 rfl 0 rfl ?_
  refine gf_RX5_13_2 (pc := 1) dX5_put_1 ?_
  refine g_iload_n (pc := 4) dX5_put_4 rfl 1 rfl ?_
  refine g_aload_n (pc := 5) dX5_put_5 rfl 0 rfl ?_
  refine gf_RX5_17_2 (pc := 6) dX5_put_6 ?_
  refine g_imul (pc := 9) dX5_put_9 ?_
  refine g_iadd (pc := 10) dX5_put_10 ?_
  refine g_iload_n (pc := 11) dX5_put_11 rfl 2 rfl ?_
  refine g_iadd (pc := 12) dX5_put_12 ?_
  refine g_nmi (fun x1 => ?_)
  refine g_istore (pc := 13) (lv' := [(4, .int x1), (0, .ref (gad γ 2)), (1, .int p0), (2, .int p1), (3, .int p2)]) dX5_put_13 (by decide) rfl ?_
  refine g_iload (pc := 15) dX5_put_15 0 rfl ?_
  refine g_if_lt (pc := 17) (tgt := 38) dX5_put_17 (by decide) ?_ ?_
  · exact g_sub [] rfl (gjb_X5_put_2_38 γ h)
  · refine g_iload (pc := 20) dX5_put_20 0 rfl ?_
    refine g_aload_n (pc := 22) dX5_put_22 rfl 1 rfl ?_
    refine gf_RX5_7_2 (pc := 23) dX5_put_23 ?_
    refine g_alen (pc := 26) (n := 0) (v := 553) 8 0 (gat_8 _ _) rfl rfl dX5_put_26 ?_
    refine g_icmp_ge (pc := 27) (tgt := 38) dX5_put_27 (by decide) ?_ ?_
    · exact g_sub [] rfl (gjb_X5_put_2_38 γ h)
    · refine g_aload_n (pc := 30) dX5_put_30 rfl 1 rfl ?_
      refine gf_RX5_7_2 (pc := 31) dX5_put_31 ?_
      refine g_iload (pc := 34) dX5_put_34 0 rfl ?_
      refine g_iload_n (pc := 36) dX5_put_36 rfl 4 rfl ?_
      refine g_iast (pc := 37) 8 (gat_8 _ _) (gset_8 _ _ _) dX5_put_37 ?_
      refine g_nmh (fun h2 => ?_)
      exact g_sub [] rfl (gjb_X5_put_2_38 γ h2)
def f_X5_add_2 (p0 : Int32) (p1 : Int32) (p2 : Int32) (h : Hst) : Option (Hst) :=
  gb (f_X5_get_2 p0 p1 h) fun x2 h1 =>
  gbv (f_X5_put_2 p0 p1 (x2 + p2) h1) fun h3 =>
  (some h3)
set_option maxRecDepth 20000 in
theorem ge_X5_add_2 (γ : Gv) (p0 : Int32) (p1 : Int32) (p2 : Int32) (h : Hst) : G γ RX5 cX5_add 4 none [] vV 1 0 0 (lv_args 0 [.ref (gad γ 2), .int p0, .int p1, .int p2]) [] h (f_X5_add_2 p0 p1 p2 h) := by
  show G γ RX5 cX5_add 4 none [] vV 1 0 0 [(0, .ref (gad γ 2)), (1, .int p0), (2, .int p1), (3, .int p2)] [] h (f_X5_add_2 p0 p1 p2 h)
  unfold f_X5_add_2
  refine g_aload_n (pc := 0) dX5_add_0 rfl 0 rfl ?_
  refine g_iload_n (pc := 1) dX5_add_1 rfl 1 rfl ?_
  refine g_iload_n (pc := 2) dX5_add_2 rfl 2 rfl ?_
  refine g_aload_n (pc := 3) dX5_add_3 rfl 0 rfl ?_
  refine g_iload_n (pc := 4) dX5_add_4 rfl 1 rfl ?_
  refine g_iload_n (pc := 5) dX5_add_5 rfl 2 rfl ?_
  refine g_cI (pc := 6) (st := [.int p1, .int p0, .ref (gad γ 2)]) (fun r hr => gRunV (As := [.int p0, .int p1]) 2 (ge_X5_get_2 γ p0 p1 h) hr wv_RX5_20 rfl (Nat.le_of_ble_eq_true rfl) (gat_2 _ _) rfl rfl (Nat.le_of_ble_eq_true rfl) (Nat.le_of_ble_eq_true rfl) dX5_add_6) (fun x2 h1 => ?_)
  refine g_iload_n (pc := 9) dX5_add_9 rfl 3 rfl ?_
  refine g_iadd (pc := 10) dX5_add_10 ?_
  refine g_cV (pc := 11) (st := []) (fun r hr => gRunV (As := [.int p0, .int p1, .int (x2 + p2)]) 2 (ge_X5_put_2 γ p0 p1 (x2 + p2) h1) hr wv_RX5_24 rfl (Nat.le_of_ble_eq_true rfl) (gat_2 _ _) rfl rfl (Nat.le_of_ble_eq_true rfl) (Nat.le_of_ble_eq_true rfl) dX5_add_11) (fun h3 => ?_)
  exact g_return (pc := 14) dX5_add_14 rfl rfl
def f_X6_enterPressedLot (p0 : Int32) (h : Hst) : Option (Hst) :=
  gl (h.1 13 5) fun x1 =>
  gbv (f_X5_put_3 x1 5 1 h) fun h2 =>
  gbv (f_X5_put_3 x1 6 (h2.1 13 6) h2) fun h3 =>
  gbv (f_X5_put_3 x1 7 (h3.1 13 7) h3) fun h4 =>
  gbv (f_X5_put_3 x1 8 (h4.1 13 8) h4) fun h5 =>
  gbv (f_X5_put_3 x1 10 p0 h5) fun h6 =>
  gb (f_X5_get_3 x1 0 h6) fun x8 h7 =>
  gbv (f_X5_add_2 x8 0 (h7.1 13 8) h7) fun h9 =>
  gb (f_X5_get_3 x1 1 h9) fun x11 h10 =>
  gbv (f_X5_add_5 x11 1 (h10.1 13 8) h10) fun h12 =>
  (some h12)
set_option maxRecDepth 20000 in
theorem ge_X6_enterPressedLot (γ : Gv) (p0 : Int32) (h : Hst) : G γ RX6 cX6_enterPressedLot 3 none [] vV 2 0 0 (lv_args 0 [.ref (gad γ 0), .int p0]) [] h (f_X6_enterPressedLot p0 h) := by
  show G γ RX6 cX6_enterPressedLot 3 none [] vV 2 0 0 [(0, .ref (gad γ 0)), (1, .int p0)] [] h (f_X6_enterPressedLot p0 h)
  unfold f_X6_enterPressedLot
  refine g_aload_n (pc := 0) dX6_enterPressedLot_0 rfl 0 rfl ?_
  refine gf_RX6_28_0 (pc := 1) dX6_enterPressedLot_1 ?_
  refine gf_RX6_168_13 (pc := 4) dX6_enterPressedLot_4 ?_
  refine g_nmi (fun x1 => ?_)
  refine g_istore_n (pc := 7) (lv' := [(2, .int x1), (0, .ref (gad γ 0)), (1, .int p0)]) dX6_enterPressedLot_7 rfl (by decide) rfl ?_
  refine g_aload_n (pc := 8) dX6_enterPressedLot_8 rfl 1 rfl ?_
  refine gf_RX6_12_0 (pc := 9) dX6_enterPressedLot_9 ?_
  refine gf_RX6_182_1 (pc := 12) dX6_enterPressedLot_12 ?_
  refine g_iload_n (pc := 15) dX6_enterPressedLot_15 rfl 0 rfl ?_
  refine g_iconst (pc := 16) (v := 5) dX6_enterPressedLot_16 (by decide) ?_
  refine g_iconst (pc := 17) (v := 1) dX6_enterPressedLot_17 (by decide) ?_
  refine g_cV (pc := 18) (st := []) (fun r hr => gRunV (As := [.int x1, .int 5, .int 1]) 3 (ge_X5_put_3 γ x1 5 1 h) hr wv_RX6_102 rfl (Nat.le_of_ble_eq_true rfl) (gat_3 _ _) rfl rfl (Nat.le_of_ble_eq_true rfl) (Nat.le_of_ble_eq_true rfl) dX6_enterPressedLot_18) (fun h2 => ?_)
  refine g_aload_n (pc := 21) dX6_enterPressedLot_21 rfl 1 rfl ?_
  refine gf_RX6_12_0 (pc := 22) dX6_enterPressedLot_22 ?_
  refine gf_RX6_182_1 (pc := 25) dX6_enterPressedLot_25 ?_
  refine g_iload_n (pc := 28) dX6_enterPressedLot_28 rfl 0 rfl ?_
  refine g_bipush (pc := 29) (v := 6) dX6_enterPressedLot_29 (by decide) ?_
  refine g_aload_n (pc := 31) dX6_enterPressedLot_31 rfl 1 rfl ?_
  refine gf_RX6_28_0 (pc := 32) dX6_enterPressedLot_32 ?_
  refine gf_RX6_400_13 (pc := 35) dX6_enterPressedLot_35 ?_
  refine g_cV (pc := 38) (st := []) (fun r hr => gRunV (As := [.int x1, .int 6, .int (h2.1 13 6)]) 3 (ge_X5_put_3 γ x1 6 (h2.1 13 6) h2) hr wv_RX6_102 rfl (Nat.le_of_ble_eq_true rfl) (gat_3 _ _) rfl rfl (Nat.le_of_ble_eq_true rfl) (Nat.le_of_ble_eq_true rfl) dX6_enterPressedLot_38) (fun h3 => ?_)
  refine g_aload_n (pc := 41) dX6_enterPressedLot_41 rfl 1 rfl ?_
  refine gf_RX6_12_0 (pc := 42) dX6_enterPressedLot_42 ?_
  refine gf_RX6_182_1 (pc := 45) dX6_enterPressedLot_45 ?_
  refine g_iload_n (pc := 48) dX6_enterPressedLot_48 rfl 0 rfl ?_
  refine g_bipush (pc := 49) (v := 7) dX6_enterPressedLot_49 (by decide) ?_
  refine g_aload_n (pc := 51) dX6_enterPressedLot_51 rfl 1 rfl ?_
  refine gf_RX6_28_0 (pc := 52) dX6_enterPressedLot_52 ?_
  refine gf_RX6_403_13 (pc := 55) dX6_enterPressedLot_55 ?_
  refine g_cV (pc := 58) (st := []) (fun r hr => gRunV (As := [.int x1, .int 7, .int (h3.1 13 7)]) 3 (ge_X5_put_3 γ x1 7 (h3.1 13 7) h3) hr wv_RX6_102 rfl (Nat.le_of_ble_eq_true rfl) (gat_3 _ _) rfl rfl (Nat.le_of_ble_eq_true rfl) (Nat.le_of_ble_eq_true rfl) dX6_enterPressedLot_58) (fun h4 => ?_)
  refine g_aload_n (pc := 61) dX6_enterPressedLot_61 rfl 1 rfl ?_
  refine gf_RX6_12_0 (pc := 62) dX6_enterPressedLot_62 ?_
  refine gf_RX6_182_1 (pc := 65) dX6_enterPressedLot_65 ?_
  refine g_iload_n (pc := 68) dX6_enterPressedLot_68 rfl 0 rfl ?_
  refine g_bipush (pc := 69) (v := 8) dX6_enterPressedLot_69 (by decide) ?_
  refine g_aload_n (pc := 71) dX6_enterPressedLot_71 rfl 1 rfl ?_
  refine gf_RX6_28_0 (pc := 72) dX6_enterPressedLot_72 ?_
  refine gf_RX6_305_13 (pc := 75) dX6_enterPressedLot_75 ?_
  refine g_cV (pc := 78) (st := []) (fun r hr => gRunV (As := [.int x1, .int 8, .int (h4.1 13 8)]) 3 (ge_X5_put_3 γ x1 8 (h4.1 13 8) h4) hr wv_RX6_102 rfl (Nat.le_of_ble_eq_true rfl) (gat_3 _ _) rfl rfl (Nat.le_of_ble_eq_true rfl) (Nat.le_of_ble_eq_true rfl) dX6_enterPressedLot_78) (fun h5 => ?_)
  refine g_aload_n (pc := 81) dX6_enterPressedLot_81 rfl 1 rfl ?_
  refine gf_RX6_12_0 (pc := 82) dX6_enterPressedLot_82 ?_
  refine gf_RX6_182_1 (pc := 85) dX6_enterPressedLot_85 ?_
  refine g_iload_n (pc := 88) dX6_enterPressedLot_88 rfl 0 rfl ?_
  refine g_bipush (pc := 89) (v := 10) dX6_enterPressedLot_89 (by decide) ?_
  refine g_iload_n (pc := 91) dX6_enterPressedLot_91 rfl 2 rfl ?_
  refine g_cV (pc := 92) (st := []) (fun r hr => gRunV (As := [.int x1, .int 10, .int p0]) 3 (ge_X5_put_3 γ x1 10 p0 h5) hr wv_RX6_102 rfl (Nat.le_of_ble_eq_true rfl) (gat_3 _ _) rfl rfl (Nat.le_of_ble_eq_true rfl) (Nat.le_of_ble_eq_true rfl) dX6_enterPressedLot_92) (fun h6 => ?_)
  refine g_aload_n (pc := 95) dX6_enterPressedLot_95 rfl 1 rfl ?_
  refine gf_RX6_12_0 (pc := 96) dX6_enterPressedLot_96 ?_
  refine gf_RX6_200_1 (pc := 99) dX6_enterPressedLot_99 ?_
  refine g_aload_n (pc := 102) dX6_enterPressedLot_102 rfl 1 rfl ?_
  refine gf_RX6_12_0 (pc := 103) dX6_enterPressedLot_103 ?_
  refine gf_RX6_182_1 (pc := 106) dX6_enterPressedLot_106 ?_
  refine g_iload_n (pc := 109) dX6_enterPressedLot_109 rfl 0 rfl ?_
  refine g_iconst (pc := 110) (v := 0) dX6_enterPressedLot_110 (by decide) ?_
  refine g_cI (pc := 111) (st := [.ref (gad γ 2)]) (fun r hr => gRunV (As := [.int x1, .int 0]) 3 (ge_X5_get_3 γ x1 0 h6) hr wv_RX6_116 rfl (Nat.le_of_ble_eq_true rfl) (gat_3 _ _) rfl rfl (Nat.le_of_ble_eq_true rfl) (Nat.le_of_ble_eq_true rfl) dX6_enterPressedLot_111) (fun x8 h7 => ?_)
  refine g_iconst (pc := 114) (v := 0) dX6_enterPressedLot_114 (by decide) ?_
  refine g_aload_n (pc := 115) dX6_enterPressedLot_115 rfl 1 rfl ?_
  refine gf_RX6_28_0 (pc := 116) dX6_enterPressedLot_116 ?_
  refine gf_RX6_305_13 (pc := 119) dX6_enterPressedLot_119 ?_
  refine g_cV (pc := 122) (st := []) (fun r hr => gRunV (As := [.int x8, .int 0, .int (h7.1 13 8)]) 2 (ge_X5_add_2 γ x8 0 (h7.1 13 8) h7) hr wv_RX6_185 rfl (Nat.le_of_ble_eq_true rfl) (gat_2 _ _) rfl rfl (Nat.le_of_ble_eq_true rfl) (Nat.le_of_ble_eq_true rfl) dX6_enterPressedLot_122) (fun h9 => ?_)
  refine g_aload_n (pc := 125) dX6_enterPressedLot_125 rfl 1 rfl ?_
  refine gf_RX6_12_0 (pc := 126) dX6_enterPressedLot_126 ?_
  refine gf_RX6_113_1 (pc := 129) dX6_enterPressedLot_129 ?_
  refine g_aload_n (pc := 132) dX6_enterPressedLot_132 rfl 1 rfl ?_
  refine gf_RX6_12_0 (pc := 133) dX6_enterPressedLot_133 ?_
  refine gf_RX6_182_1 (pc := 136) dX6_enterPressedLot_136 ?_
  refine g_iload_n (pc := 139) dX6_enterPressedLot_139 rfl 0 rfl ?_
  refine g_iconst (pc := 140) (v := 1) dX6_enterPressedLot_140 (by decide) ?_
  refine g_cI (pc := 141) (st := [.ref (gad γ 5)]) (fun r hr => gRunV (As := [.int x1, .int 1]) 3 (ge_X5_get_3 γ x1 1 h9) hr wv_RX6_116 rfl (Nat.le_of_ble_eq_true rfl) (gat_3 _ _) rfl rfl (Nat.le_of_ble_eq_true rfl) (Nat.le_of_ble_eq_true rfl) dX6_enterPressedLot_141) (fun x11 h10 => ?_)
  refine g_iconst (pc := 144) (v := 1) dX6_enterPressedLot_144 (by decide) ?_
  refine g_aload_n (pc := 145) dX6_enterPressedLot_145 rfl 1 rfl ?_
  refine gf_RX6_28_0 (pc := 146) dX6_enterPressedLot_146 ?_
  refine gf_RX6_305_13 (pc := 149) dX6_enterPressedLot_149 ?_
  refine g_cV (pc := 152) (st := []) (fun r hr => gRunV (As := [.int x11, .int 1, .int (h10.1 13 8)]) 5 (ge_X5_add_5 γ x11 1 (h10.1 13 8) h10) hr wv_RX6_185 rfl (Nat.le_of_ble_eq_true rfl) (gat_5 _ _) rfl rfl (Nat.le_of_ble_eq_true rfl) (Nat.le_of_ble_eq_true rfl) dX6_enterPressedLot_152) (fun h12 => ?_)
  exact g_return (pc := 155) dX6_enterPressedLot_155 rfl rfl
def f_X5_add_4 (p0 : Int32) (p1 : Int32) (p2 : Int32) (h : Hst) : Option (Hst) :=
  gb (f_X5_get_4 p0 p1 h) fun x2 h1 =>
  gbv (f_X5_put_4 p0 p1 (x2 + p2) h1) fun h3 =>
  (some h3)
set_option maxRecDepth 20000 in
theorem ge_X5_add_4 (γ : Gv) (p0 : Int32) (p1 : Int32) (p2 : Int32) (h : Hst) : G γ RX5 cX5_add 4 none [] vV 1 0 0 (lv_args 0 [.ref (gad γ 4), .int p0, .int p1, .int p2]) [] h (f_X5_add_4 p0 p1 p2 h) := by
  show G γ RX5 cX5_add 4 none [] vV 1 0 0 [(0, .ref (gad γ 4)), (1, .int p0), (2, .int p1), (3, .int p2)] [] h (f_X5_add_4 p0 p1 p2 h)
  unfold f_X5_add_4
  refine g_aload_n (pc := 0) dX5_add_0 rfl 0 rfl ?_
  refine g_iload_n (pc := 1) dX5_add_1 rfl 1 rfl ?_
  refine g_iload_n (pc := 2) dX5_add_2 rfl 2 rfl ?_
  refine g_aload_n (pc := 3) dX5_add_3 rfl 0 rfl ?_
  refine g_iload_n (pc := 4) dX5_add_4 rfl 1 rfl ?_
  refine g_iload_n (pc := 5) dX5_add_5 rfl 2 rfl ?_
  refine g_cI (pc := 6) (st := [.int p1, .int p0, .ref (gad γ 4)]) (fun r hr => gRunV (As := [.int p0, .int p1]) 4 (ge_X5_get_4 γ p0 p1 h) hr wv_RX5_20 rfl (Nat.le_of_ble_eq_true rfl) (gat_4 _ _) rfl rfl (Nat.le_of_ble_eq_true rfl) (Nat.le_of_ble_eq_true rfl) dX5_add_6) (fun x2 h1 => ?_)
  refine g_iload_n (pc := 9) dX5_add_9 rfl 3 rfl ?_
  refine g_iadd (pc := 10) dX5_add_10 ?_
  refine g_cV (pc := 11) (st := []) (fun r hr => gRunV (As := [.int p0, .int p1, .int (x2 + p2)]) 4 (ge_X5_put_4 γ p0 p1 (x2 + p2) h1) hr wv_RX5_24 rfl (Nat.le_of_ble_eq_true rfl) (gat_4 _ _) rfl rfl (Nat.le_of_ble_eq_true rfl) (Nat.le_of_ble_eq_true rfl) dX5_add_11) (fun h3 => ?_)
  exact g_return (pc := 14) dX5_add_14 rfl rfl
def jb_X1_pour_41   (h : Hst) : Option (Hst) :=
  (some h)
def f_X1_pour (p0 : Int32) (p1 : Int32) (p2 : Int32) (p3 : Int32) (h : Hst) : Option (Hst) :=
  (if p2 ≤ 0 then
    (jb_X1_pour_41 h)
  else
    gb (f_X1_gradeOf p0 h) fun x2 h1 =>
    gbv (f_X5_put_4 p0 1 (if x2 < p3 then p3 else x2) h1) fun h3 =>
    gbv (f_X5_add_4 p0 (2 + p1) p2 h3) fun h4 =>
    (jb_X1_pour_41 h4))
set_option maxRecDepth 20000 in
theorem gjb_X1_pour_41 (γ : Gv)   (h : Hst) : G γ RX1 cX1_pour 5 none [] vV 3 0 41 [] [] h (jb_X1_pour_41 h) := by
  unfold jb_X1_pour_41
  exact g_return (pc := 41) dX1_pour_41 rfl rfl
set_option maxRecDepth 20000 in
theorem ge_X1_pour (γ : Gv) (p0 : Int32) (p1 : Int32) (p2 : Int32) (p3 : Int32) (h : Hst) : G γ RX1 cX1_pour 5 none [] vV 3 0 0 (lv_args 0 [.ref (gad γ 10), .int p0, .int p1, .int p2, .int p3]) [] h (f_X1_pour p0 p1 p2 p3 h) := by
  show G γ RX1 cX1_pour 5 none [] vV 3 0 0 [(0, .ref (gad γ 10)), (1, .int p0), (2, .int p1), (3, .int p2), (4, .int p3)] [] h (f_X1_pour p0 p1 p2 p3 h)
  unfold f_X1_pour
  refine g_iload_n (pc := 0) dX1_pour_0 rfl 3 rfl ?_
  refine g_if_le (pc := 1) (tgt := 41) dX1_pour_1 (by decide) ?_ ?_
  · exact g_sub [] rfl (gjb_X1_pour_41 γ h)
  · refine g_aload_n (pc := 4) dX1_pour_4 rfl 0 rfl ?_
    refine gf_RX1_9_10 (pc := 5) dX1_pour_5 ?_
    refine gf_RX1_22_1 (pc := 8) dX1_pour_8 ?_
    refine g_iload_n (pc := 11) dX1_pour_11 rfl 1 rfl ?_
    refine g_iconst (pc := 12) (v := 1) dX1_pour_12 (by decide) ?_
    refine g_aload_n (pc := 13) dX1_pour_13 rfl 0 rfl ?_
    refine g_iload_n (pc := 14) dX1_pour_14 rfl 1 rfl ?_
    refine g_cI (pc := 15) (st := [.int 1, .int p0, .ref (gad γ 4)]) (fun r hr => gRunV (As := [.int p0]) 10 (ge_X1_gradeOf γ p0 h) hr wv_RX1_38 rfl (Nat.le_of_ble_eq_true rfl) (gat_10 _ _) rfl rfl (Nat.le_of_ble_eq_true rfl) (Nat.le_of_ble_eq_true rfl) dX1_pour_15) (fun x2 h1 => ?_)
    refine g_iload (pc := 18) dX1_pour_18 4 rfl ?_
    refine g_mmax (pc := 20) wk_RX1_41 wm_max1 wm_2 wm_max3 (Nat.le_of_ble_eq_true rfl) (Nat.le_of_ble_eq_true rfl) dX1_pour_20 ?_
    refine g_cV (pc := 23) (st := []) (fun r hr => gRunV (As := [.int p0, .int 1, .int (if x2 < p3 then p3 else x2)]) 4 (ge_X5_put_4 γ p0 1 (if x2 < p3 then p3 else x2) h1) hr wv_RX1_46 rfl (Nat.le_of_ble_eq_true rfl) (gat_4 _ _) rfl rfl (Nat.le_of_ble_eq_true rfl) (Nat.le_of_ble_eq_true rfl) dX1_pour_23) (fun h3 => ?_)
    refine g_aload_n (pc := 26) dX1_pour_26 rfl 0 rfl ?_
    refine gf_RX1_9_10 (pc := 27) dX1_pour_27 ?_
    refine gf_RX1_22_1 (pc := 30) dX1_pour_30 ?_
    refine g_iload_n (pc := 33) dX1_pour_33 rfl 1 rfl ?_
    refine g_iconst (pc := 34) (v := 2) dX1_pour_34 (by decide) ?_
    refine g_iload_n (pc := 35) dX1_pour_35 rfl 2 rfl ?_
    refine g_iadd (pc := 36) dX1_pour_36 ?_
    refine g_iload_n (pc := 37) dX1_pour_37 rfl 3 rfl ?_
    refine g_cV (pc := 38) (st := []) (fun r hr => gRunV (As := [.int p0, .int (2 + p1), .int p2]) 4 (ge_X5_add_4 γ p0 (2 + p1) p2 h3) hr wv_RX1_50 rfl (Nat.le_of_ble_eq_true rfl) (gat_4 _ _) rfl rfl (Nat.le_of_ble_eq_true rfl) (Nat.le_of_ble_eq_true rfl) dX1_pour_38) (fun h4 => ?_)
    exact g_sub [] rfl (gjb_X1_pour_41 γ h4)
def f_X6_pourPressedOil (p0 : Int32) (h : Hst) : Option (Hst) :=
  gl (h.1 13 5) fun x1 =>
  gb (f_X0_gradeOfLot x1 h) fun x3 h2 =>
  gbv (f_X1_pour p0 (h2.1 13 4) (h2.1 13 10) x3 h2) fun h4 =>
  gb (f_X5_get_3 x1 1 h4) fun x6 h5 =>
  gbv (f_X1_pour p0 x6 ((h5.1 13 11) - (h5.1 13 10)) x3 h5) fun h7 =>
  (some h7)
set_option maxRecDepth 20000 in
theorem ge_X6_pourPressedOil (γ : Gv) (p0 : Int32) (h : Hst) : G γ RX6 cX6_pourPressedOil 4 none [] vV 4 0 0 (lv_args 0 [.ref (gad γ 0), .int p0]) [] h (f_X6_pourPressedOil p0 h) := by
  show G γ RX6 cX6_pourPressedOil 4 none [] vV 4 0 0 [(0, .ref (gad γ 0)), (1, .int p0)] [] h (f_X6_pourPressedOil p0 h)
  unfold f_X6_pourPressedOil
  refine g_aload_n (pc := 0) dX6_pourPressedOil_0 rfl 0 rfl ?_
  refine gf_RX6_28_0 (pc := 1) dX6_pourPressedOil_1 ?_
  refine gf_RX6_168_13 (pc := 4) dX6_pourPressedOil_4 ?_
  refine g_nmi (fun x1 => ?_)
  refine g_istore_n (pc := 7) (lv' := [(2, .int x1), (0, .ref (gad γ 0)), (1, .int p0)]) dX6_pourPressedOil_7 rfl (by decide) rfl ?_
  refine g_aload_n (pc := 8) dX6_pourPressedOil_8 rfl 1 rfl ?_
  refine gf_RX6_12_0 (pc := 9) dX6_pourPressedOil_9 ?_
  refine g_iload_n (pc := 12) dX6_pourPressedOil_12 rfl 0 rfl ?_
  refine g_cI (pc := 13) (st := []) (fun r hr => gRunV (As := [.int x1]) 1 (ge_X0_gradeOfLot γ x1 h) hr wv_RX6_187 rfl (Nat.le_of_ble_eq_true rfl) (gat_1 _ _) rfl rfl (Nat.le_of_ble_eq_true rfl) (Nat.le_of_ble_eq_true rfl) dX6_pourPressedOil_13) (fun x3 h2 => ?_)
  refine g_istore_n (pc := 16) (lv' := [(3, .int x3), (2, .int x1), (0, .ref (gad γ 0)), (1, .int p0)]) dX6_pourPressedOil_16 rfl (by decide) rfl ?_
  refine g_aload_n (pc := 17) dX6_pourPressedOil_17 rfl 2 rfl ?_
  refine gf_RX6_21_0 (pc := 18) dX6_pourPressedOil_18 ?_
  refine g_iload_n (pc := 21) dX6_pourPressedOil_21 rfl 3 rfl ?_
  refine g_aload_n (pc := 22) dX6_pourPressedOil_22 rfl 2 rfl ?_
  refine gf_RX6_28_0 (pc := 23) dX6_pourPressedOil_23 ?_
  refine gf_RX6_147_13 (pc := 26) dX6_pourPressedOil_26 ?_
  refine g_aload_n (pc := 29) dX6_pourPressedOil_29 rfl 2 rfl ?_
  refine gf_RX6_28_0 (pc := 30) dX6_pourPressedOil_30 ?_
  refine gf_RX6_406_13 (pc := 33) dX6_pourPressedOil_33 ?_
  refine g_iload_n (pc := 36) dX6_pourPressedOil_36 rfl 0 rfl ?_
  refine g_cV (pc := 37) (st := []) (fun r hr => gRunV (As := [.int p0, .int (h2.1 13 4), .int (h2.1 13 10), .int x3]) 10 (ge_X1_pour γ p0 (h2.1 13 4) (h2.1 13 10) x3 h2) hr wv_RX6_190 rfl (Nat.le_of_ble_eq_true rfl) (gat_10 _ _) rfl rfl (Nat.le_of_ble_eq_true rfl) (Nat.le_of_ble_eq_true rfl) dX6_pourPressedOil_37) (fun h4 => ?_)
  refine g_aload_n (pc := 40) dX6_pourPressedOil_40 rfl 2 rfl ?_
  refine gf_RX6_21_0 (pc := 41) dX6_pourPressedOil_41 ?_
  refine g_iload_n (pc := 44) dX6_pourPressedOil_44 rfl 3 rfl ?_
  refine g_aload_n (pc := 45) dX6_pourPressedOil_45 rfl 2 rfl ?_
  refine gf_RX6_12_0 (pc := 46) dX6_pourPressedOil_46 ?_
  refine gf_RX6_182_1 (pc := 49) dX6_pourPressedOil_49 ?_
  refine g_iload_n (pc := 52) dX6_pourPressedOil_52 rfl 1 rfl ?_
  refine g_iconst (pc := 53) (v := 1) dX6_pourPressedOil_53 (by decide) ?_
  refine g_cI (pc := 54) (st := [.int p0, .ref (gad γ 10)]) (fun r hr => gRunV (As := [.int x1, .int 1]) 3 (ge_X5_get_3 γ x1 1 h4) hr wv_RX6_116 rfl (Nat.le_of_ble_eq_true rfl) (gat_3 _ _) rfl rfl (Nat.le_of_ble_eq_true rfl) (Nat.le_of_ble_eq_true rfl) dX6_pourPressedOil_54) (fun x6 h5 => ?_)
  refine g_aload_n (pc := 57) dX6_pourPressedOil_57 rfl 2 rfl ?_
  refine gf_RX6_28_0 (pc := 58) dX6_pourPressedOil_58 ?_
  refine gf_RX6_308_13 (pc := 61) dX6_pourPressedOil_61 ?_
  refine g_aload_n (pc := 64) dX6_pourPressedOil_64 rfl 2 rfl ?_
  refine gf_RX6_28_0 (pc := 65) dX6_pourPressedOil_65 ?_
  refine gf_RX6_406_13 (pc := 68) dX6_pourPressedOil_68 ?_
  refine g_isub (pc := 71) dX6_pourPressedOil_71 ?_
  refine g_iload_n (pc := 72) dX6_pourPressedOil_72 rfl 0 rfl ?_
  refine g_cV (pc := 73) (st := []) (fun r hr => gRunV (As := [.int p0, .int x6, .int ((h5.1 13 11) - (h5.1 13 10)), .int x3]) 10 (ge_X1_pour γ p0 x6 ((h5.1 13 11) - (h5.1 13 10)) x3 h5) hr wv_RX6_190 rfl (Nat.le_of_ble_eq_true rfl) (gat_10 _ _) rfl rfl (Nat.le_of_ble_eq_true rfl) (Nat.le_of_ble_eq_true rfl) dX6_pourPressedOil_73) (fun h7 => ?_)
  exact g_return (pc := 76) dX6_pourPressedOil_76 rfl rfl
def f_X6_press (p0 : Int32) (p1 : Int32) (h : Hst) : Option ((Int32 × Hst) ⊕ (Nat × Hst)) :=
  (gbvx (f_X6_checkTank p0 h) (fun h1 =>
    gb (f_X6_reasonAgainstPress p0 p1 h1) fun x3 h2 =>
    (if x3 = 0 then
      gbv (f_X0_save h2) fun h4 =>
      gbv (f_X6_loseByCleaning (h4.1 13 4) (h4.1 13 9) h4) fun h5 =>
      gbv (f_X6_enterPressedLot p0 h5) fun h6 =>
      gbv (f_X6_pourPressedOil p0 h6) fun h7 =>
      gbv (f_X3_put_7 3 (h7.1 13 2) h7) fun h8 =>
      gbv (f_X3_put_7 4 (h8.1 13 3) h8) fun h9 =>
      (some (.inl (h9.1 13 5, h9)))
    else
      (some (.inr (2, h2))))) (fun E h10 => some (.inr (E, h10))))
set_option maxRecDepth 20000 in
theorem ge_X6_press (γ : Gv) (p0 : Int32) (p1 : Int32) (h : Hst) : G γ RX6 cX6_press 3 (some .int) [] vIX 7 0 0 (lv_args 0 [.ref (gad γ 0), .int p0, .int p1]) [] h (f_X6_press p0 p1 h) := by
  show G γ RX6 cX6_press 3 (some .int) [] vIX 7 0 0 [(0, .ref (gad γ 0)), (1, .int p0), (2, .int p1)] [] h (f_X6_press p0 p1 h)
  unfold f_X6_press
  refine g_aload_n (pc := 0) dX6_press_0 rfl 0 rfl ?_
  refine g_iload_n (pc := 1) dX6_press_1 rfl 1 rfl ?_
  refine g_cVX (pc := 2) (st := []) (fun r hr => gRunV (As := [.int p0]) 0 (ge_X6_checkTank γ p0 h) hr wv_RX6_138 rfl (Nat.le_of_ble_eq_true rfl) (gat_0 _ _) rfl rfl (Nat.le_of_ble_eq_true rfl) (Nat.le_of_ble_eq_true rfl) dX6_press_2) (fun h1 => ?_) (fun E h10 hrun => gRun.out hrun rfl rfl (fun y hy => by cases hy; rfl) (fun x hx => nomatch hx))
  refine g_aload_n (pc := 5) dX6_press_5 rfl 0 rfl ?_
  refine g_iload_n (pc := 6) dX6_press_6 rfl 1 rfl ?_
  refine g_iload_n (pc := 7) dX6_press_7 rfl 2 rfl ?_
  refine g_cI (pc := 8) (st := []) (fun r hr => gRunV (As := [.int p0, .int p1]) 0 (ge_X6_reasonAgainstPress γ p0 p1 h1) hr wv_RX6_141 rfl (Nat.le_of_ble_eq_true rfl) (gat_0 _ _) rfl rfl (Nat.le_of_ble_eq_true rfl) (Nat.le_of_ble_eq_true rfl) dX6_press_8) (fun x3 h2 => ?_)
  refine g_if_eq (pc := 11) (tgt := 24) dX6_press_11 (by decide) ?_ ?_
  · refine g_aload_n (pc := 24) dX6_press_24 rfl 0 rfl ?_
    refine gf_RX6_12_0 (pc := 25) dX6_press_25 ?_
    refine g_cV (pc := 28) (st := []) (fun r hr => gRunV (As := []) 1 (ge_X0_save γ h2) hr wv_RX6_64 rfl (Nat.le_of_ble_eq_true rfl) (gat_1 _ _) rfl rfl (Nat.le_of_ble_eq_true rfl) (Nat.le_of_ble_eq_true rfl) dX6_press_28) (fun h4 => ?_)
    refine g_aload_n (pc := 31) dX6_press_31 rfl 0 rfl ?_
    refine g_aload_n (pc := 32) dX6_press_32 rfl 0 rfl ?_
    refine gf_RX6_28_0 (pc := 33) dX6_press_33 ?_
    refine gf_RX6_147_13 (pc := 36) dX6_press_36 ?_
    refine g_aload_n (pc := 39) dX6_press_39 rfl 0 rfl ?_
    refine gf_RX6_28_0 (pc := 40) dX6_press_40 ?_
    refine gf_RX6_150_13 (pc := 43) dX6_press_43 ?_
    refine g_cV (pc := 46) (st := []) (fun r hr => gRunV (As := [.int (h4.1 13 4), .int (h4.1 13 9)]) 0 (ge_X6_loseByCleaning γ (h4.1 13 4) (h4.1 13 9) h4) hr wv_RX6_153 rfl (Nat.le_of_ble_eq_true rfl) (gat_0 _ _) rfl rfl (Nat.le_of_ble_eq_true rfl) (Nat.le_of_ble_eq_true rfl) dX6_press_46) (fun h5 => ?_)
    refine g_aload_n (pc := 49) dX6_press_49 rfl 0 rfl ?_
    refine g_iload_n (pc := 50) dX6_press_50 rfl 1 rfl ?_
    refine g_cV (pc := 51) (st := []) (fun r hr => gRunV (As := [.int p0]) 0 (ge_X6_enterPressedLot γ p0 h5) hr wv_RX6_156 rfl (Nat.le_of_ble_eq_true rfl) (gat_0 _ _) rfl rfl (Nat.le_of_ble_eq_true rfl) (Nat.le_of_ble_eq_true rfl) dX6_press_51) (fun h6 => ?_)
    refine g_aload_n (pc := 54) dX6_press_54 rfl 0 rfl ?_
    refine g_iload_n (pc := 55) dX6_press_55 rfl 1 rfl ?_
    refine g_cV (pc := 56) (st := []) (fun r hr => gRunV (As := [.int p0]) 0 (ge_X6_pourPressedOil γ p0 h6) hr wv_RX6_159 rfl (Nat.le_of_ble_eq_true rfl) (gat_0 _ _) rfl rfl (Nat.le_of_ble_eq_true rfl) (Nat.le_of_ble_eq_true rfl) dX6_press_56) (fun h7 => ?_)
    refine g_aload_n (pc := 59) dX6_press_59 rfl 0 rfl ?_
    refine gf_RX6_12_0 (pc := 60) dX6_press_60 ?_
    refine gf_RX6_47_1 (pc := 63) dX6_press_63 ?_
    refine g_iconst (pc := 66) (v := 3) dX6_press_66 (by decide) ?_
    refine g_aload_n (pc := 67) dX6_press_67 rfl 0 rfl ?_
    refine gf_RX6_28_0 (pc := 68) dX6_press_68 ?_
    refine gf_RX6_162_13 (pc := 71) dX6_press_71 ?_
    refine g_cV (pc := 74) (st := []) (fun r hr => gRunV (As := [.int 3, .int (h7.1 13 2)]) 7 (ge_X3_put_7 γ 3 (h7.1 13 2) h7) hr wv_RX6_136 rfl (Nat.le_of_ble_eq_true rfl) (gat_7 _ _) rfl rfl (Nat.le_of_ble_eq_true rfl) (Nat.le_of_ble_eq_true rfl) dX6_press_74) (fun h8 => ?_)
    refine g_aload_n (pc := 77) dX6_press_77 rfl 0 rfl ?_
    refine gf_RX6_12_0 (pc := 78) dX6_press_78 ?_
    refine gf_RX6_47_1 (pc := 81) dX6_press_81 ?_
    refine g_iconst (pc := 84) (v := 4) dX6_press_84 (by decide) ?_
    refine g_aload_n (pc := 85) dX6_press_85 rfl 0 rfl ?_
    refine gf_RX6_28_0 (pc := 86) dX6_press_86 ?_
    refine gf_RX6_165_13 (pc := 89) dX6_press_89 ?_
    refine g_cV (pc := 92) (st := []) (fun r hr => gRunV (As := [.int 4, .int (h8.1 13 3)]) 7 (ge_X3_put_7 γ 4 (h8.1 13 3) h8) hr wv_RX6_136 rfl (Nat.le_of_ble_eq_true rfl) (gat_7 _ _) rfl rfl (Nat.le_of_ble_eq_true rfl) (Nat.le_of_ble_eq_true rfl) dX6_press_92) (fun h9 => ?_)
    refine g_aload_n (pc := 95) dX6_press_95 rfl 0 rfl ?_
    refine gf_RX6_28_0 (pc := 96) dX6_press_96 ?_
    refine gf_RX6_168_13 (pc := 99) dX6_press_99 ?_
    exact g_ireturn (pc := 102) (ty := .int) dX6_press_102 rfl rfl rfl
  · exact g_throwS 2 (by decide +kernel) wcl_RX6_57 wini_2 wat_RX6_61_2 rfl (by decide +kernel : (145, "there is a reason against pressing the next lot") ∈ gstrs) (Nat.le_of_ble_eq_true rfl) (fun x hx => nomatch hx) dX6_press_14 dX6_press_17 dX6_press_18 dX6_press_20 dX6_press_23 (fun z hz => by cases hz; rfl)
def f_X6_clean  (h : Hst) : Option (Int32 × Hst) :=
  gbv (f_X0_save h) fun h1 =>
  gb (f_X3_get_7 4 h1) fun x3 h2 =>
  gb (f_X3_get_7 3 h2) fun x5 h4 =>
  gbv (f_X6_loseByCleaning x5 x3 h4) fun h6 =>
  gbv (f_X3_put_7 4 0 h6) fun h7 =>
  (some (x3, h7))
set_option maxRecDepth 20000 in
theorem ge_X6_clean (γ : Gv)  (h : Hst) : G γ RX6 cX6_clean 2 (some .int) [] vI 3 0 0 (lv_args 0 [.ref (gad γ 0)]) [] h (f_X6_clean h) := by
  show G γ RX6 cX6_clean 2 (some .int) [] vI 3 0 0 [(0, .ref (gad γ 0))] [] h (f_X6_clean h)
  unfold f_X6_clean
  refine g_aload_n (pc := 0) dX6_clean_0 rfl 0 rfl ?_
  refine gf_RX6_12_0 (pc := 1) dX6_clean_1 ?_
  refine g_cV (pc := 4) (st := []) (fun r hr => gRunV (As := []) 1 (ge_X0_save γ h) hr wv_RX6_64 rfl (Nat.le_of_ble_eq_true rfl) (gat_1 _ _) rfl rfl (Nat.le_of_ble_eq_true rfl) (Nat.le_of_ble_eq_true rfl) dX6_clean_4) (fun h1 => ?_)
  refine g_aload_n (pc := 7) dX6_clean_7 rfl 0 rfl ?_
  refine gf_RX6_12_0 (pc := 8) dX6_clean_8 ?_
  refine gf_RX6_47_1 (pc := 11) dX6_clean_11 ?_
  refine g_iconst (pc := 14) (v := 4) dX6_clean_14 (by decide) ?_
  refine g_cI (pc := 15) (st := []) (fun r hr => gRunV (As := [.int 4]) 7 (ge_X3_get_7 γ 4 h1) hr wv_RX6_51 rfl (Nat.le_of_ble_eq_true rfl) (gat_7 _ _) rfl rfl (Nat.le_of_ble_eq_true rfl) (Nat.le_of_ble_eq_true rfl) dX6_clean_15) (fun x3 h2 => ?_)
  refine g_istore_n (pc := 18) (lv' := [(1, .int x3), (0, .ref (gad γ 0))]) dX6_clean_18 rfl (by decide) rfl ?_
  refine g_aload_n (pc := 19) dX6_clean_19 rfl 1 rfl ?_
  refine g_aload_n (pc := 20) dX6_clean_20 rfl 1 rfl ?_
  refine gf_RX6_12_0 (pc := 21) dX6_clean_21 ?_
  refine gf_RX6_47_1 (pc := 24) dX6_clean_24 ?_
  refine g_iconst (pc := 27) (v := 3) dX6_clean_27 (by decide) ?_
  refine g_cI (pc := 28) (st := [.ref (gad γ 0)]) (fun r hr => gRunV (As := [.int 3]) 7 (ge_X3_get_7 γ 3 h2) hr wv_RX6_51 rfl (Nat.le_of_ble_eq_true rfl) (gat_7 _ _) rfl rfl (Nat.le_of_ble_eq_true rfl) (Nat.le_of_ble_eq_true rfl) dX6_clean_28) (fun x5 h4 => ?_)
  refine g_iload_n (pc := 31) dX6_clean_31 rfl 0 rfl ?_
  refine g_cV (pc := 32) (st := []) (fun r hr => gRunV (As := [.int x5, .int x3]) 0 (ge_X6_loseByCleaning γ x5 x3 h4) hr wv_RX6_153 rfl (Nat.le_of_ble_eq_true rfl) (gat_0 _ _) rfl rfl (Nat.le_of_ble_eq_true rfl) (Nat.le_of_ble_eq_true rfl) dX6_clean_32) (fun h6 => ?_)
  refine g_aload_n (pc := 35) dX6_clean_35 rfl 1 rfl ?_
  refine gf_RX6_12_0 (pc := 36) dX6_clean_36 ?_
  refine gf_RX6_47_1 (pc := 39) dX6_clean_39 ?_
  refine g_iconst (pc := 42) (v := 4) dX6_clean_42 (by decide) ?_
  refine g_iconst (pc := 43) (v := 0) dX6_clean_43 (by decide) ?_
  refine g_cV (pc := 44) (st := []) (fun r hr => gRunV (As := [.int 4, .int 0]) 7 (ge_X3_put_7 γ 4 0 h6) hr wv_RX6_136 rfl (Nat.le_of_ble_eq_true rfl) (gat_7 _ _) rfl rfl (Nat.le_of_ble_eq_true rfl) (Nat.le_of_ble_eq_true rfl) dX6_clean_44) (fun h7 => ?_)
  refine g_iload_n (pc := 47) dX6_clean_47 rfl 0 rfl ?_
  exact g_ireturn (pc := 48) (ty := .int) dX6_clean_48 rfl rfl rfl
def jb_X6_checkLot_19   (h : Hst) : Option ((Hst) ⊕ (Nat × Hst)) :=
  (some (.inr (0, h)))
def f_X6_checkLot (p0 : Int32) (h : Hst) : Option ((Hst) ⊕ (Nat × Hst)) :=
  (if p0 < 0 then
    (jb_X6_checkLot_19 h)
  else
    gb (f_X3_get_7 1 h) fun x2 h1 =>
    (if p0 < x2 then
      (some (.inl h1))
    else
      (jb_X6_checkLot_19 h1)))
set_option maxRecDepth 20000 in
theorem gjb_X6_checkLot_19 (γ : Gv)   (h : Hst) : G γ RX6 cX6_checkLot 2 none [] vVX 6 0 19 [] [] h (jb_X6_checkLot_19 h) := by
  unfold jb_X6_checkLot_19
  exact g_throwSW 0 (by decide +kernel) wcl_RX6_122 wini_0 wat_RX6_126_0 rfl (by decide +kernel : (379, "there is no such lot") ∈ gstrs) (Nat.le_of_ble_eq_true rfl) (fun x hx => nomatch hx) dX6_checkLot_19 dX6_checkLot_22 dX6_checkLot_23 dX6_checkLot_26 dX6_checkLot_29 (fun z hz => by cases hz; rfl)
set_option maxRecDepth 20000 in
theorem ge_X6_checkLot (γ : Gv) (p0 : Int32) (h : Hst) : G γ RX6 cX6_checkLot 2 none [] vVX 6 0 0 (lv_args 0 [.ref (gad γ 0), .int p0]) [] h (f_X6_checkLot p0 h) := by
  show G γ RX6 cX6_checkLot 2 none [] vVX 6 0 0 [(0, .ref (gad γ 0)), (1, .int p0)] [] h (f_X6_checkLot p0 h)
  unfold f_X6_checkLot
  refine g_iload_n (pc := 0) dX6_checkLot_0 rfl 1 rfl ?_
  refine g_if_lt (pc := 1) (tgt := 19) dX6_checkLot_1 (by decide) ?_ ?_
  · exact g_sub [] rfl (gjb_X6_checkLot_19 γ h)
  · refine g_iload_n (pc := 4) dX6_checkLot_4 rfl 1 rfl ?_
    refine g_aload_n (pc := 5) dX6_checkLot_5 rfl 0 rfl ?_
    refine gf_RX6_12_0 (pc := 6) dX6_checkLot_6 ?_
    refine gf_RX6_47_1 (pc := 9) dX6_checkLot_9 ?_
    refine g_iconst (pc := 12) (v := 1) dX6_checkLot_12 (by decide) ?_
    refine g_cI (pc := 13) (st := [.int p0]) (fun r hr => gRunV (As := [.int 1]) 7 (ge_X3_get_7 γ 1 h) hr wv_RX6_51 rfl (Nat.le_of_ble_eq_true rfl) (gat_7 _ _) rfl rfl (Nat.le_of_ble_eq_true rfl) (Nat.le_of_ble_eq_true rfl) dX6_checkLot_13) (fun x2 h1 => ?_)
    refine g_icmp_lt (pc := 16) (tgt := 30) dX6_checkLot_16 (by decide) ?_ ?_
    · exact g_return (pc := 30) dX6_checkLot_30 rfl rfl
    · exact g_sub [] rfl (gjb_X6_checkLot_19 γ h1)
def f_X6_secondOilOf (p0 : Int32) (h : Hst) : Option (Int32 × Hst) :=
  gb (f_X5_get_3 p0 7 h) fun x2 h1 =>
  gb (f_X5_get_3 p0 8 h1) fun x4 h3 =>
  gl (x2 - x4) fun x5 =>
  gb (f_X3_get_6 2 h3) fun x7 h6 =>
  gdz 1000 ((some ((x5 * x7) / 1000, h6)))
set_option maxRecDepth 20000 in
theorem ge_X6_secondOilOf (γ : Gv) (p0 : Int32) (h : Hst) : G γ RX6 cX6_secondOilOf 3 (some .int) [] vI 1 0 0 (lv_args 0 [.ref (gad γ 0), .int p0]) [] h (f_X6_secondOilOf p0 h) := by
  show G γ RX6 cX6_secondOilOf 3 (some .int) [] vI 1 0 0 [(0, .ref (gad γ 0)), (1, .int p0)] [] h (f_X6_secondOilOf p0 h)
  unfold f_X6_secondOilOf
  refine g_aload_n (pc := 0) dX6_secondOilOf_0 rfl 0 rfl ?_
  refine gf_RX6_12_0 (pc := 1) dX6_secondOilOf_1 ?_
  refine gf_RX6_182_1 (pc := 4) dX6_secondOilOf_4 ?_
  refine g_iload_n (pc := 7) dX6_secondOilOf_7 rfl 1 rfl ?_
  refine g_bipush (pc := 8) (v := 7) dX6_secondOilOf_8 (by decide) ?_
  refine g_cI (pc := 10) (st := []) (fun r hr => gRunV (As := [.int p0, .int 7]) 3 (ge_X5_get_3 γ p0 7 h) hr wv_RX6_116 rfl (Nat.le_of_ble_eq_true rfl) (gat_3 _ _) rfl rfl (Nat.le_of_ble_eq_true rfl) (Nat.le_of_ble_eq_true rfl) dX6_secondOilOf_10) (fun x2 h1 => ?_)
  refine g_aload_n (pc := 13) dX6_secondOilOf_13 rfl 0 rfl ?_
  refine gf_RX6_12_0 (pc := 14) dX6_secondOilOf_14 ?_
  refine gf_RX6_182_1 (pc := 17) dX6_secondOilOf_17 ?_
  refine g_iload_n (pc := 20) dX6_secondOilOf_20 rfl 1 rfl ?_
  refine g_bipush (pc := 21) (v := 8) dX6_secondOilOf_21 (by decide) ?_
  refine g_cI (pc := 23) (st := [.int x2]) (fun r hr => gRunV (As := [.int p0, .int 8]) 3 (ge_X5_get_3 γ p0 8 h1) hr wv_RX6_116 rfl (Nat.le_of_ble_eq_true rfl) (gat_3 _ _) rfl rfl (Nat.le_of_ble_eq_true rfl) (Nat.le_of_ble_eq_true rfl) dX6_secondOilOf_23) (fun x4 h3 => ?_)
  refine g_isub (pc := 26) dX6_secondOilOf_26 ?_
  refine g_nmi (fun x5 => ?_)
  refine g_istore_n (pc := 27) (lv' := [(2, .int x5), (0, .ref (gad γ 0)), (1, .int p0)]) dX6_secondOilOf_27 rfl (by decide) rfl ?_
  refine g_iload_n (pc := 28) dX6_secondOilOf_28 rfl 0 rfl ?_
  refine g_aload_n (pc := 29) dX6_secondOilOf_29 rfl 1 rfl ?_
  refine gf_RX6_12_0 (pc := 30) dX6_secondOilOf_30 ?_
  refine gf_RX6_133_1 (pc := 33) dX6_secondOilOf_33 ?_
  refine g_iconst (pc := 36) (v := 2) dX6_secondOilOf_36 (by decide) ?_
  refine g_cI (pc := 37) (st := [.int x5]) (fun r hr => gRunV (As := [.int 2]) 6 (ge_X3_get_6 γ 2 h3) hr wv_RX6_51 rfl (Nat.le_of_ble_eq_true rfl) (gat_6 _ _) rfl rfl (Nat.le_of_ble_eq_true rfl) (Nat.le_of_ble_eq_true rfl) dX6_secondOilOf_37) (fun x7 h6 => ?_)
  refine g_imul (pc := 40) dX6_secondOilOf_40 ?_
  refine g_sipush (pc := 41) (v := 1000) dX6_secondOilOf_41 (by decide) ?_
  refine g_idiv (pc := 44) dX6_secondOilOf_44 ?_
  exact g_ireturn (pc := 45) (ty := .int) dX6_secondOilOf_45 rfl rfl rfl
def f_X6_reasonAgainstAppeal (p0 : Int32) (h : Hst) : Option (Int32 × Hst) :=
  gb (f_X5_get_3 p0 5 h) fun x2 h1 =>
  (if x2 = 1 then
    gb (f_X5_get_3 p0 6 h1) fun x4 h3 =>
    gb (f_X3_get_6 1 h3) fun x6 h5 =>
    gdz 1000 (gl ((x4 * x6) / 1000) fun x7 =>
    gb (f_X5_get_3 p0 8 h5) fun x9 h8 =>
    gb (f_X3_get_6 6 h8) fun x11 h10 =>
    gdz 1000 ((if x9 < ((x7 * (1000 - x11)) / 1000) then
      gb (f_X6_secondOilOf p0 h10) fun x13 h12 =>
      gb (f_X5_get_3 p0 10 h12) fun x15 h14 =>
      gb (f_X1_roomOf x15 h14) fun x17 h16 =>
      (if x13 ≤ x17 then
        (some (0, h16))
      else
        (some (3, h16)))
    else
      (some (2, h10)))))
  else
    (some (1, h1)))
set_option maxRecDepth 20000 in
theorem ge_X6_reasonAgainstAppeal (γ : Gv) (p0 : Int32) (h : Hst) : G γ RX6 cX6_reasonAgainstAppeal 3 (some .int) [] vI 3 0 0 (lv_args 0 [.ref (gad γ 0), .int p0]) [] h (f_X6_reasonAgainstAppeal p0 h) := by
  show G γ RX6 cX6_reasonAgainstAppeal 3 (some .int) [] vI 3 0 0 [(0, .ref (gad γ 0)), (1, .int p0)] [] h (f_X6_reasonAgainstAppeal p0 h)
  unfold f_X6_reasonAgainstAppeal
  refine g_aload_n (pc := 0) dX6_reasonAgainstAppeal_0 rfl 0 rfl ?_
  refine gf_RX6_12_0 (pc := 1) dX6_reasonAgainstAppeal_1 ?_
  refine gf_RX6_182_1 (pc := 4) dX6_reasonAgainstAppeal_4 ?_
  refine g_iload_n (pc := 7) dX6_reasonAgainstAppeal_7 rfl 1 rfl ?_
  refine g_iconst (pc := 8) (v := 5) dX6_reasonAgainstAppeal_8 (by decide) ?_
  refine g_cI (pc := 9) (st := []) (fun r hr => gRunV (As := [.int p0, .int 5]) 3 (ge_X5_get_3 γ p0 5 h) hr wv_RX6_116 rfl (Nat.le_of_ble_eq_true rfl) (gat_3 _ _) rfl rfl (Nat.le_of_ble_eq_true rfl) (Nat.le_of_ble_eq_true rfl) dX6_reasonAgainstAppeal_9) (fun x2 h1 => ?_)
  refine g_iconst (pc := 12) (v := 1) dX6_reasonAgainstAppeal_12 (by decide) ?_
  refine g_icmp_eq (pc := 13) (tgt := 18) dX6_reasonAgainstAppeal_13 (by decide) ?_ ?_
  · refine g_aload_n (pc := 18) dX6_reasonAgainstAppeal_18 rfl 0 rfl ?_
    refine gf_RX6_12_0 (pc := 19) dX6_reasonAgainstAppeal_19 ?_
    refine gf_RX6_182_1 (pc := 22) dX6_reasonAgainstAppeal_22 ?_
    refine g_iload_n (pc := 25) dX6_reasonAgainstAppeal_25 rfl 1 rfl ?_
    refine g_bipush (pc := 26) (v := 6) dX6_reasonAgainstAppeal_26 (by decide) ?_
    refine g_cI (pc := 28) (st := []) (fun r hr => gRunV (As := [.int p0, .int 6]) 3 (ge_X5_get_3 γ p0 6 h1) hr wv_RX6_116 rfl (Nat.le_of_ble_eq_true rfl) (gat_3 _ _) rfl rfl (Nat.le_of_ble_eq_true rfl) (Nat.le_of_ble_eq_true rfl) dX6_reasonAgainstAppeal_28) (fun x4 h3 => ?_)
    refine g_aload_n (pc := 31) dX6_reasonAgainstAppeal_31 rfl 0 rfl ?_
    refine gf_RX6_12_0 (pc := 32) dX6_reasonAgainstAppeal_32 ?_
    refine gf_RX6_133_1 (pc := 35) dX6_reasonAgainstAppeal_35 ?_
    refine g_iconst (pc := 38) (v := 1) dX6_reasonAgainstAppeal_38 (by decide) ?_
    refine g_cI (pc := 39) (st := [.int x4]) (fun r hr => gRunV (As := [.int 1]) 6 (ge_X3_get_6 γ 1 h3) hr wv_RX6_51 rfl (Nat.le_of_ble_eq_true rfl) (gat_6 _ _) rfl rfl (Nat.le_of_ble_eq_true rfl) (Nat.le_of_ble_eq_true rfl) dX6_reasonAgainstAppeal_39) (fun x6 h5 => ?_)
    refine g_imul (pc := 42) dX6_reasonAgainstAppeal_42 ?_
    refine g_sipush (pc := 43) (v := 1000) dX6_reasonAgainstAppeal_43 (by decide) ?_
    refine g_idiv (pc := 46) dX6_reasonAgainstAppeal_46 ?_
    refine g_nmi (fun x7 => ?_)
    refine g_istore_n (pc := 47) (lv' := [(2, .int x7), (0, .ref (gad γ 0)), (1, .int p0)]) dX6_reasonAgainstAppeal_47 rfl (by decide) rfl ?_
    refine g_aload_n (pc := 48) dX6_reasonAgainstAppeal_48 rfl 1 rfl ?_
    refine gf_RX6_12_0 (pc := 49) dX6_reasonAgainstAppeal_49 ?_
    refine gf_RX6_182_1 (pc := 52) dX6_reasonAgainstAppeal_52 ?_
    refine g_iload_n (pc := 55) dX6_reasonAgainstAppeal_55 rfl 2 rfl ?_
    refine g_bipush (pc := 56) (v := 8) dX6_reasonAgainstAppeal_56 (by decide) ?_
    refine g_cI (pc := 58) (st := []) (fun r hr => gRunV (As := [.int p0, .int 8]) 3 (ge_X5_get_3 γ p0 8 h5) hr wv_RX6_116 rfl (Nat.le_of_ble_eq_true rfl) (gat_3 _ _) rfl rfl (Nat.le_of_ble_eq_true rfl) (Nat.le_of_ble_eq_true rfl) dX6_reasonAgainstAppeal_58) (fun x9 h8 => ?_)
    refine g_iload_n (pc := 61) dX6_reasonAgainstAppeal_61 rfl 0 rfl ?_
    refine g_sipush (pc := 62) (v := 1000) dX6_reasonAgainstAppeal_62 (by decide) ?_
    refine g_aload_n (pc := 65) dX6_reasonAgainstAppeal_65 rfl 1 rfl ?_
    refine gf_RX6_12_0 (pc := 66) dX6_reasonAgainstAppeal_66 ?_
    refine gf_RX6_133_1 (pc := 69) dX6_reasonAgainstAppeal_69 ?_
    refine g_bipush (pc := 72) (v := 6) dX6_reasonAgainstAppeal_72 (by decide) ?_
    refine g_cI (pc := 74) (st := [.int 1000, .int x7, .int x9]) (fun r hr => gRunV (As := [.int 6]) 6 (ge_X3_get_6 γ 6 h8) hr wv_RX6_51 rfl (Nat.le_of_ble_eq_true rfl) (gat_6 _ _) rfl rfl (Nat.le_of_ble_eq_true rfl) (Nat.le_of_ble_eq_true rfl) dX6_reasonAgainstAppeal_74) (fun x11 h10 => ?_)
    refine g_isub (pc := 77) dX6_reasonAgainstAppeal_77 ?_
    refine g_imul (pc := 78) dX6_reasonAgainstAppeal_78 ?_
    refine g_sipush (pc := 79) (v := 1000) dX6_reasonAgainstAppeal_79 (by decide) ?_
    refine g_idiv (pc := 82) dX6_reasonAgainstAppeal_82 ?_
    refine g_icmp_lt (pc := 83) (tgt := 88) dX6_reasonAgainstAppeal_83 (by decide) ?_ ?_
    · refine g_aload_n (pc := 88) dX6_reasonAgainstAppeal_88 rfl 1 rfl ?_
      refine g_iload_n (pc := 89) dX6_reasonAgainstAppeal_89 rfl 2 rfl ?_
      refine g_cI (pc := 90) (st := []) (fun r hr => gRunV (As := [.int p0]) 0 (ge_X6_secondOilOf γ p0 h10) hr wv_RX6_179 rfl (Nat.le_of_ble_eq_true rfl) (gat_0 _ _) rfl rfl (Nat.le_of_ble_eq_true rfl) (Nat.le_of_ble_eq_true rfl) dX6_reasonAgainstAppeal_90) (fun x13 h12 => ?_)
      refine g_aload_n (pc := 93) dX6_reasonAgainstAppeal_93 rfl 1 rfl ?_
      refine gf_RX6_21_0 (pc := 94) dX6_reasonAgainstAppeal_94 ?_
      refine g_aload_n (pc := 97) dX6_reasonAgainstAppeal_97 rfl 1 rfl ?_
      refine gf_RX6_12_0 (pc := 98) dX6_reasonAgainstAppeal_98 ?_
      refine gf_RX6_182_1 (pc := 101) dX6_reasonAgainstAppeal_101 ?_
      refine g_iload_n (pc := 104) dX6_reasonAgainstAppeal_104 rfl 2 rfl ?_
      refine g_bipush (pc := 105) (v := 10) dX6_reasonAgainstAppeal_105 (by decide) ?_
      refine g_cI (pc := 107) (st := [.ref (gad γ 10), .int x13]) (fun r hr => gRunV (As := [.int p0, .int 10]) 3 (ge_X5_get_3 γ p0 10 h12) hr wv_RX6_116 rfl (Nat.le_of_ble_eq_true rfl) (gat_3 _ _) rfl rfl (Nat.le_of_ble_eq_true rfl) (Nat.le_of_ble_eq_true rfl) dX6_reasonAgainstAppeal_107) (fun x15 h14 => ?_)
      refine g_cI (pc := 110) (st := [.int x13]) (fun r hr => gRunV (As := [.int x15]) 10 (ge_X1_roomOf γ x15 h14) hr wv_RX6_219 rfl (Nat.le_of_ble_eq_true rfl) (gat_10 _ _) rfl rfl (Nat.le_of_ble_eq_true rfl) (Nat.le_of_ble_eq_true rfl) dX6_reasonAgainstAppeal_110) (fun x17 h16 => ?_)
      refine g_icmp_le (pc := 113) (tgt := 118) dX6_reasonAgainstAppeal_113 (by decide) ?_ ?_
      · refine g_iconst (pc := 118) (v := 0) dX6_reasonAgainstAppeal_118 (by decide) ?_
        exact g_ireturn (pc := 119) (ty := .int) dX6_reasonAgainstAppeal_119 rfl rfl rfl
      · refine g_iconst (pc := 116) (v := 3) dX6_reasonAgainstAppeal_116 (by decide) ?_
        exact g_ireturn (pc := 117) (ty := .int) dX6_reasonAgainstAppeal_117 rfl rfl rfl
    · refine g_iconst (pc := 86) (v := 2) dX6_reasonAgainstAppeal_86 (by decide) ?_
      exact g_ireturn (pc := 87) (ty := .int) dX6_reasonAgainstAppeal_87 rfl rfl rfl
  · refine g_iconst (pc := 16) (v := 1) dX6_reasonAgainstAppeal_16 (by decide) ?_
    exact g_ireturn (pc := 17) (ty := .int) dX6_reasonAgainstAppeal_17 rfl rfl rfl
def jb_X6_settleAppeal_86   (h : Hst) : Option (Hst) :=
  (some h)
def f_X6_settleAppeal (p0 : Int32) (p1 : Int32) (h : Hst) : Option (Hst) :=
  gb (f_X3_get_6 4 h) fun x2 h1 =>
  gbv (f_X5_add_2 p0 2 1 h1) fun h3 =>
  gbv (f_X5_add_2 p0 0 p1 h3) fun h4 =>
  (if x2 ≤ p1 then
    (jb_X6_settleAppeal_86 h4)
  else
    gbv (f_X5_add_2 p0 3 1 h4) fun h5 =>
    gb (f_X5_get_2 p0 0 h5) fun x7 h6 =>
    gbv (f_X5_put_2 p0 0 (if 0 < (x7 - x2) then (x7 - x2) else 0) h6) fun h8 =>
    (jb_X6_settleAppeal_86 h8))
set_option maxRecDepth 20000 in
theorem gjb_X6_settleAppeal_86 (γ : Gv)   (h : Hst) : G γ RX6 cX6_settleAppeal 4 none [] vV 2 0 86 [] [] h (jb_X6_settleAppeal_86 h) := by
  unfold jb_X6_settleAppeal_86
  exact g_return (pc := 86) dX6_settleAppeal_86 rfl rfl
set_option maxRecDepth 20000 in
theorem ge_X6_settleAppeal (γ : Gv) (p0 : Int32) (p1 : Int32) (h : Hst) : G γ RX6 cX6_settleAppeal 4 none [] vV 2 0 0 (lv_args 0 [.ref (gad γ 0), .int p0, .int p1]) [] h (f_X6_settleAppeal p0 p1 h) := by
  show G γ RX6 cX6_settleAppeal 4 none [] vV 2 0 0 [(0, .ref (gad γ 0)), (1, .int p0), (2, .int p1)] [] h (f_X6_settleAppeal p0 p1 h)
  unfold f_X6_settleAppeal
  refine g_aload_n (pc := 0) dX6_settleAppeal_0 rfl 0 rfl ?_
  refine gf_RX6_12_0 (pc := 1) dX6_settleAppeal_1 ?_
  refine gf_RX6_133_1 (pc := 4) dX6_settleAppeal_4 ?_
  refine g_iconst (pc := 7) (v := 4) dX6_settleAppeal_7 (by decide) ?_
  refine g_cI (pc := 8) (st := []) (fun r hr => gRunV (As := [.int 4]) 6 (ge_X3_get_6 γ 4 h) hr wv_RX6_51 rfl (Nat.le_of_ble_eq_true rfl) (gat_6 _ _) rfl rfl (Nat.le_of_ble_eq_true rfl) (Nat.le_of_ble_eq_true rfl) dX6_settleAppeal_8) (fun x2 h1 => ?_)
  refine g_istore_n (pc := 11) (lv' := [(3, .int x2), (0, .ref (gad γ 0)), (1, .int p0), (2, .int p1)]) dX6_settleAppeal_11 rfl (by decide) rfl ?_
  refine g_aload_n (pc := 12) dX6_settleAppeal_12 rfl 1 rfl ?_
  refine gf_RX6_12_0 (pc := 13) dX6_settleAppeal_13 ?_
  refine gf_RX6_200_1 (pc := 16) dX6_settleAppeal_16 ?_
  refine g_iload_n (pc := 19) dX6_settleAppeal_19 rfl 2 rfl ?_
  refine g_iconst (pc := 20) (v := 2) dX6_settleAppeal_20 (by decide) ?_
  refine g_iconst (pc := 21) (v := 1) dX6_settleAppeal_21 (by decide) ?_
  refine g_cV (pc := 22) (st := []) (fun r hr => gRunV (As := [.int p0, .int 2, .int 1]) 2 (ge_X5_add_2 γ p0 2 1 h1) hr wv_RX6_185 rfl (Nat.le_of_ble_eq_true rfl) (gat_2 _ _) rfl rfl (Nat.le_of_ble_eq_true rfl) (Nat.le_of_ble_eq_true rfl) dX6_settleAppeal_22) (fun h3 => ?_)
  refine g_aload_n (pc := 25) dX6_settleAppeal_25 rfl 1 rfl ?_
  refine gf_RX6_12_0 (pc := 26) dX6_settleAppeal_26 ?_
  refine gf_RX6_200_1 (pc := 29) dX6_settleAppeal_29 ?_
  refine g_iload_n (pc := 32) dX6_settleAppeal_32 rfl 2 rfl ?_
  refine g_iconst (pc := 33) (v := 0) dX6_settleAppeal_33 (by decide) ?_
  refine g_iload_n (pc := 34) dX6_settleAppeal_34 rfl 3 rfl ?_
  refine g_cV (pc := 35) (st := []) (fun r hr => gRunV (As := [.int p0, .int 0, .int p1]) 2 (ge_X5_add_2 γ p0 0 p1 h3) hr wv_RX6_185 rfl (Nat.le_of_ble_eq_true rfl) (gat_2 _ _) rfl rfl (Nat.le_of_ble_eq_true rfl) (Nat.le_of_ble_eq_true rfl) dX6_settleAppeal_35) (fun h4 => ?_)
  refine g_iload_n (pc := 38) dX6_settleAppeal_38 rfl 3 rfl ?_
  refine g_iload_n (pc := 39) dX6_settleAppeal_39 rfl 0 rfl ?_
  refine g_icmp_ge (pc := 40) (tgt := 86) dX6_settleAppeal_40 (by decide) ?_ ?_
  · exact g_sub [] rfl (gjb_X6_settleAppeal_86 γ h4)
  · refine g_aload_n (pc := 43) dX6_settleAppeal_43 rfl 1 rfl ?_
    refine gf_RX6_12_0 (pc := 44) dX6_settleAppeal_44 ?_
    refine gf_RX6_200_1 (pc := 47) dX6_settleAppeal_47 ?_
    refine g_iload_n (pc := 50) dX6_settleAppeal_50 rfl 2 rfl ?_
    refine g_iconst (pc := 51) (v := 3) dX6_settleAppeal_51 (by decide) ?_
    refine g_iconst (pc := 52) (v := 1) dX6_settleAppeal_52 (by decide) ?_
    refine g_cV (pc := 53) (st := []) (fun r hr => gRunV (As := [.int p0, .int 3, .int 1]) 2 (ge_X5_add_2 γ p0 3 1 h4) hr wv_RX6_185 rfl (Nat.le_of_ble_eq_true rfl) (gat_2 _ _) rfl rfl (Nat.le_of_ble_eq_true rfl) (Nat.le_of_ble_eq_true rfl) dX6_settleAppeal_53) (fun h5 => ?_)
    refine g_aload_n (pc := 56) dX6_settleAppeal_56 rfl 1 rfl ?_
    refine gf_RX6_12_0 (pc := 57) dX6_settleAppeal_57 ?_
    refine gf_RX6_200_1 (pc := 60) dX6_settleAppeal_60 ?_
    refine g_iload_n (pc := 63) dX6_settleAppeal_63 rfl 2 rfl ?_
    refine g_iconst (pc := 64) (v := 0) dX6_settleAppeal_64 (by decide) ?_
    refine g_iconst (pc := 65) (v := 0) dX6_settleAppeal_65 (by decide) ?_
    refine g_aload_n (pc := 66) dX6_settleAppeal_66 rfl 1 rfl ?_
    refine gf_RX6_12_0 (pc := 67) dX6_settleAppeal_67 ?_
    refine gf_RX6_200_1 (pc := 70) dX6_settleAppeal_70 ?_
    refine g_iload_n (pc := 73) dX6_settleAppeal_73 rfl 2 rfl ?_
    refine g_iconst (pc := 74) (v := 0) dX6_settleAppeal_74 (by decide) ?_
    refine g_cI (pc := 75) (st := [.int 0, .int 0, .int p0, .ref (gad γ 2)]) (fun r hr => gRunV (As := [.int p0, .int 0]) 2 (ge_X5_get_2 γ p0 0 h5) hr wv_RX6_116 rfl (Nat.le_of_ble_eq_true rfl) (gat_2 _ _) rfl rfl (Nat.le_of_ble_eq_true rfl) (Nat.le_of_ble_eq_true rfl) dX6_settleAppeal_75) (fun x7 h6 => ?_)
    refine g_iload_n (pc := 78) dX6_settleAppeal_78 rfl 0 rfl ?_
    refine g_isub (pc := 79) dX6_settleAppeal_79 ?_
    refine g_mmax (pc := 80) wk_RX6_409 wm_max1 wm_2 wm_max3 (Nat.le_of_ble_eq_true rfl) (Nat.le_of_ble_eq_true rfl) dX6_settleAppeal_80 ?_
    refine g_cV (pc := 83) (st := []) (fun r hr => gRunV (As := [.int p0, .int 0, .int (if 0 < (x7 - x2) then (x7 - x2) else 0)]) 2 (ge_X5_put_2 γ p0 0 (if 0 < (x7 - x2) then (x7 - x2) else 0) h6) hr wv_RX6_102 rfl (Nat.le_of_ble_eq_true rfl) (gat_2 _ _) rfl rfl (Nat.le_of_ble_eq_true rfl) (Nat.le_of_ble_eq_true rfl) dX6_settleAppeal_83) (fun h8 => ?_)
    exact g_sub [] rfl (gjb_X6_settleAppeal_86 γ h8)
def f_X6_appeal (p0 : Int32) (h : Hst) : Option ((Int32 × Hst) ⊕ (Nat × Hst)) :=
  (gbvx (f_X6_checkLot p0 h) (fun h1 =>
    gb (f_X6_reasonAgainstAppeal p0 h1) fun x3 h2 =>
    (if x3 = 0 then
      gbv (f_X0_save h2) fun h4 =>
      gb (f_X6_secondOilOf p0 h4) fun x6 h5 =>
      gb (f_X5_get_3 p0 1 h5) fun x8 h7 =>
      gbv (f_X5_put_3 p0 5 2 h7) fun h9 =>
      gbv (f_X5_put_3 p0 9 x6 h9) fun h10 =>
      gbv (f_X5_add_5 x8 1 x6 h10) fun h11 =>
      gb (f_X5_get_3 p0 10 h11) fun x13 h12 =>
      gb (f_X0_gradeOfLot p0 h12) fun x15 h14 =>
      gbv (f_X1_pour x13 x8 x6 x15 h14) fun h16 =>
      gb (f_X5_get_3 p0 0 h16) fun x18 h17 =>
      gbv (f_X6_settleAppeal x18 x6 h17) fun h19 =>
      (some (.inl (x6, h19)))
    else
      (some (.inr (2, h2))))) (fun E h20 => some (.inr (E, h20))))
set_option maxRecDepth 20000 in
theorem ge_X6_appeal (γ : Gv) (p0 : Int32) (h : Hst) : G γ RX6 cX6_appeal 4 (some .int) [] vIX 7 0 0 (lv_args 0 [.ref (gad γ 0), .int p0]) [] h (f_X6_appeal p0 h) := by
  show G γ RX6 cX6_appeal 4 (some .int) [] vIX 7 0 0 [(0, .ref (gad γ 0)), (1, .int p0)] [] h (f_X6_appeal p0 h)
  unfold f_X6_appeal
  refine g_aload_n (pc := 0) dX6_appeal_0 rfl 0 rfl ?_
  refine g_iload_n (pc := 1) dX6_appeal_1 rfl 1 rfl ?_
  refine g_cVX (pc := 2) (st := []) (fun r hr => gRunV (As := [.int p0]) 0 (ge_X6_checkLot γ p0 h) hr wv_RX6_171 rfl (Nat.le_of_ble_eq_true rfl) (gat_0 _ _) rfl rfl (Nat.le_of_ble_eq_true rfl) (Nat.le_of_ble_eq_true rfl) dX6_appeal_2) (fun h1 => ?_) (fun E h20 hrun => gRun.out hrun rfl rfl (fun y hy => by cases hy; rfl) (fun x hx => nomatch hx))
  refine g_aload_n (pc := 5) dX6_appeal_5 rfl 0 rfl ?_
  refine g_iload_n (pc := 6) dX6_appeal_6 rfl 1 rfl ?_
  refine g_cI (pc := 7) (st := []) (fun r hr => gRunV (As := [.int p0]) 0 (ge_X6_reasonAgainstAppeal γ p0 h1) hr wv_RX6_174 rfl (Nat.le_of_ble_eq_true rfl) (gat_0 _ _) rfl rfl (Nat.le_of_ble_eq_true rfl) (Nat.le_of_ble_eq_true rfl) dX6_appeal_7) (fun x3 h2 => ?_)
  refine g_if_eq (pc := 10) (tgt := 23) dX6_appeal_10 (by decide) ?_ ?_
  · refine g_aload_n (pc := 23) dX6_appeal_23 rfl 0 rfl ?_
    refine gf_RX6_12_0 (pc := 24) dX6_appeal_24 ?_
    refine g_cV (pc := 27) (st := []) (fun r hr => gRunV (As := []) 1 (ge_X0_save γ h2) hr wv_RX6_64 rfl (Nat.le_of_ble_eq_true rfl) (gat_1 _ _) rfl rfl (Nat.le_of_ble_eq_true rfl) (Nat.le_of_ble_eq_true rfl) dX6_appeal_27) (fun h4 => ?_)
    refine g_aload_n (pc := 30) dX6_appeal_30 rfl 0 rfl ?_
    refine g_iload_n (pc := 31) dX6_appeal_31 rfl 1 rfl ?_
    refine g_cI (pc := 32) (st := []) (fun r hr => gRunV (As := [.int p0]) 0 (ge_X6_secondOilOf γ p0 h4) hr wv_RX6_179 rfl (Nat.le_of_ble_eq_true rfl) (gat_0 _ _) rfl rfl (Nat.le_of_ble_eq_true rfl) (Nat.le_of_ble_eq_true rfl) dX6_appeal_32) (fun x6 h5 => ?_)
    refine g_istore_n (pc := 35) (lv' := [(2, .int x6), (0, .ref (gad γ 0)), (1, .int p0)]) dX6_appeal_35 rfl (by decide) rfl ?_
    refine g_aload_n (pc := 36) dX6_appeal_36 rfl 1 rfl ?_
    refine gf_RX6_12_0 (pc := 37) dX6_appeal_37 ?_
    refine gf_RX6_182_1 (pc := 40) dX6_appeal_40 ?_
    refine g_iload_n (pc := 43) dX6_appeal_43 rfl 2 rfl ?_
    refine g_iconst (pc := 44) (v := 1) dX6_appeal_44 (by decide) ?_
    refine g_cI (pc := 45) (st := []) (fun r hr => gRunV (As := [.int p0, .int 1]) 3 (ge_X5_get_3 γ p0 1 h5) hr wv_RX6_116 rfl (Nat.le_of_ble_eq_true rfl) (gat_3 _ _) rfl rfl (Nat.le_of_ble_eq_true rfl) (Nat.le_of_ble_eq_true rfl) dX6_appeal_45) (fun x8 h7 => ?_)
    refine g_istore_n (pc := 48) (lv' := [(3, .int x8), (2, .int x6), (0, .ref (gad γ 0)), (1, .int p0)]) dX6_appeal_48 rfl (by decide) rfl ?_
    refine g_aload_n (pc := 49) dX6_appeal_49 rfl 2 rfl ?_
    refine gf_RX6_12_0 (pc := 50) dX6_appeal_50 ?_
    refine gf_RX6_182_1 (pc := 53) dX6_appeal_53 ?_
    refine g_iload_n (pc := 56) dX6_appeal_56 rfl 3 rfl ?_
    refine g_iconst (pc := 57) (v := 5) dX6_appeal_57 (by decide) ?_
    refine g_iconst (pc := 58) (v := 2) dX6_appeal_58 (by decide) ?_
    refine g_cV (pc := 59) (st := []) (fun r hr => gRunV (As := [.int p0, .int 5, .int 2]) 3 (ge_X5_put_3 γ p0 5 2 h7) hr wv_RX6_102 rfl (Nat.le_of_ble_eq_true rfl) (gat_3 _ _) rfl rfl (Nat.le_of_ble_eq_true rfl) (Nat.le_of_ble_eq_true rfl) dX6_appeal_59) (fun h9 => ?_)
    refine g_aload_n (pc := 62) dX6_appeal_62 rfl 2 rfl ?_
    refine gf_RX6_12_0 (pc := 63) dX6_appeal_63 ?_
    refine gf_RX6_182_1 (pc := 66) dX6_appeal_66 ?_
    refine g_iload_n (pc := 69) dX6_appeal_69 rfl 3 rfl ?_
    refine g_bipush (pc := 70) (v := 9) dX6_appeal_70 (by decide) ?_
    refine g_iload_n (pc := 72) dX6_appeal_72 rfl 1 rfl ?_
    refine g_cV (pc := 73) (st := []) (fun r hr => gRunV (As := [.int p0, .int 9, .int x6]) 3 (ge_X5_put_3 γ p0 9 x6 h9) hr wv_RX6_102 rfl (Nat.le_of_ble_eq_true rfl) (gat_3 _ _) rfl rfl (Nat.le_of_ble_eq_true rfl) (Nat.le_of_ble_eq_true rfl) dX6_appeal_73) (fun h10 => ?_)
    refine g_aload_n (pc := 76) dX6_appeal_76 rfl 2 rfl ?_
    refine gf_RX6_12_0 (pc := 77) dX6_appeal_77 ?_
    refine gf_RX6_113_1 (pc := 80) dX6_appeal_80 ?_
    refine g_iload_n (pc := 83) dX6_appeal_83 rfl 0 rfl ?_
    refine g_iconst (pc := 84) (v := 1) dX6_appeal_84 (by decide) ?_
    refine g_iload_n (pc := 85) dX6_appeal_85 rfl 1 rfl ?_
    refine g_cV (pc := 86) (st := []) (fun r hr => gRunV (As := [.int x8, .int 1, .int x6]) 5 (ge_X5_add_5 γ x8 1 x6 h10) hr wv_RX6_185 rfl (Nat.le_of_ble_eq_true rfl) (gat_5 _ _) rfl rfl (Nat.le_of_ble_eq_true rfl) (Nat.le_of_ble_eq_true rfl) dX6_appeal_86) (fun h11 => ?_)
    refine g_aload_n (pc := 89) dX6_appeal_89 rfl 2 rfl ?_
    refine gf_RX6_21_0 (pc := 90) dX6_appeal_90 ?_
    refine g_aload_n (pc := 93) dX6_appeal_93 rfl 2 rfl ?_
    refine gf_RX6_12_0 (pc := 94) dX6_appeal_94 ?_
    refine gf_RX6_182_1 (pc := 97) dX6_appeal_97 ?_
    refine g_iload_n (pc := 100) dX6_appeal_100 rfl 3 rfl ?_
    refine g_bipush (pc := 101) (v := 10) dX6_appeal_101 (by decide) ?_
    refine g_cI (pc := 103) (st := [.ref (gad γ 10)]) (fun r hr => gRunV (As := [.int p0, .int 10]) 3 (ge_X5_get_3 γ p0 10 h11) hr wv_RX6_116 rfl (Nat.le_of_ble_eq_true rfl) (gat_3 _ _) rfl rfl (Nat.le_of_ble_eq_true rfl) (Nat.le_of_ble_eq_true rfl) dX6_appeal_103) (fun x13 h12 => ?_)
    refine g_iload_n (pc := 106) dX6_appeal_106 rfl 0 rfl ?_
    refine g_iload_n (pc := 107) dX6_appeal_107 rfl 1 rfl ?_
    refine g_aload_n (pc := 108) dX6_appeal_108 rfl 2 rfl ?_
    refine gf_RX6_12_0 (pc := 109) dX6_appeal_109 ?_
    refine g_iload_n (pc := 112) dX6_appeal_112 rfl 3 rfl ?_
    refine g_cI (pc := 113) (st := [.int x6, .int x8, .int x13, .ref (gad γ 10)]) (fun r hr => gRunV (As := [.int p0]) 1 (ge_X0_gradeOfLot γ p0 h12) hr wv_RX6_187 rfl (Nat.le_of_ble_eq_true rfl) (gat_1 _ _) rfl rfl (Nat.le_of_ble_eq_true rfl) (Nat.le_of_ble_eq_true rfl) dX6_appeal_113) (fun x15 h14 => ?_)
    refine g_cV (pc := 116) (st := []) (fun r hr => gRunV (As := [.int x13, .int x8, .int x6, .int x15]) 10 (ge_X1_pour γ x13 x8 x6 x15 h14) hr wv_RX6_190 rfl (Nat.le_of_ble_eq_true rfl) (gat_10 _ _) rfl rfl (Nat.le_of_ble_eq_true rfl) (Nat.le_of_ble_eq_true rfl) dX6_appeal_116) (fun h16 => ?_)
    refine g_aload_n (pc := 119) dX6_appeal_119 rfl 2 rfl ?_
    refine g_aload_n (pc := 120) dX6_appeal_120 rfl 2 rfl ?_
    refine gf_RX6_12_0 (pc := 121) dX6_appeal_121 ?_
    refine gf_RX6_182_1 (pc := 124) dX6_appeal_124 ?_
    refine g_iload_n (pc := 127) dX6_appeal_127 rfl 3 rfl ?_
    refine g_iconst (pc := 128) (v := 0) dX6_appeal_128 (by decide) ?_
    refine g_cI (pc := 129) (st := [.ref (gad γ 0)]) (fun r hr => gRunV (As := [.int p0, .int 0]) 3 (ge_X5_get_3 γ p0 0 h16) hr wv_RX6_116 rfl (Nat.le_of_ble_eq_true rfl) (gat_3 _ _) rfl rfl (Nat.le_of_ble_eq_true rfl) (Nat.le_of_ble_eq_true rfl) dX6_appeal_129) (fun x18 h17 => ?_)
    refine g_iload_n (pc := 132) dX6_appeal_132 rfl 1 rfl ?_
    refine g_cV (pc := 133) (st := []) (fun r hr => gRunV (As := [.int x18, .int x6]) 0 (ge_X6_settleAppeal γ x18 x6 h17) hr wv_RX6_194 rfl (Nat.le_of_ble_eq_true rfl) (gat_0 _ _) rfl rfl (Nat.le_of_ble_eq_true rfl) (Nat.le_of_ble_eq_true rfl) dX6_appeal_133) (fun h19 => ?_)
    refine g_iload_n (pc := 136) dX6_appeal_136 rfl 1 rfl ?_
    exact g_ireturn (pc := 137) (ty := .int) dX6_appeal_137 rfl rfl rfl
  · exact g_throwS 2 (by decide +kernel) wcl_RX6_57 wini_2 wat_RX6_61_2 rfl (by decide +kernel : (177, "there is a reason against this appeal") ∈ gstrs) (Nat.le_of_ble_eq_true rfl) (fun x hx => nomatch hx) dX6_appeal_13 dX6_appeal_16 dX6_appeal_17 dX6_appeal_19 dX6_appeal_22 (fun z hz => by cases hz; rfl)
def f_X6_checkOil (p0 : Int32) (h : Hst) : Option ((Hst) ⊕ (Nat × Hst)) :=
  gb (f_X6_isOutside p0 1 20000 h) fun x2 h1 =>
  (if x2 = 0 then
    (some (.inl h1))
  else
    (some (.inr (1, h1))))
set_option maxRecDepth 20000 in
theorem ge_X6_checkOil (γ : Gv) (p0 : Int32) (h : Hst) : G γ RX6 cX6_checkOil 1 none [] vVX 6 0 0 (lv_args 0 [.int p0]) [] h (f_X6_checkOil p0 h) := by
  show G γ RX6 cX6_checkOil 1 none [] vVX 6 0 0 [(0, .int p0)] [] h (f_X6_checkOil p0 h)
  unfold f_X6_checkOil
  refine g_iload_n (pc := 0) dX6_checkOil_0 rfl 0 rfl ?_
  refine g_iconst (pc := 1) (v := 1) dX6_checkOil_1 (by decide) ?_
  refine g_sipush (pc := 2) (v := 20000) dX6_checkOil_2 (by decide) ?_
  refine g_cI (pc := 5) (st := []) (fun r hr => gRunS (As := [.int p0, .int 1, .int 20000]) (ge_X6_isOutside γ p0 1 20000 h) hr wv_RX6_79 rfl (Nat.le_of_ble_eq_true rfl) rfl (Nat.le_of_ble_eq_true rfl) (Nat.le_of_ble_eq_true rfl) dX6_checkOil_5) (fun x2 h1 => ?_)
  refine g_if_eq (pc := 8) (tgt := 22) dX6_checkOil_8 (by decide) ?_ ?_
  · exact g_return (pc := 22) dX6_checkOil_22 rfl rfl
  · exact g_throwSW 1 (by decide +kernel) wcl_RX6_83 wini_1 wat_RX6_87_1 rfl (by decide +kernel : (383, "the oil is not 1 to 20000") ∈ gstrs) (Nat.le_of_ble_eq_true rfl) (fun x hx => nomatch hx) dX6_checkOil_11 dX6_checkOil_14 dX6_checkOil_15 dX6_checkOil_18 dX6_checkOil_21 (fun z hz => by cases hz; rfl)
def jb_X1_greatestRemainder_30 (R4 : Int32 → Int32 → Hst → Option (Int32 × Hst)) (a1 : Int32) (a2 : Int32) (h : Hst) : Option (Int32 × Hst) :=
  (R4 a1 (a2 + 1) h)
def lp_X1_greatestRemainder_4 : Nat → Int32 → Int32 → Hst → Option (Int32 × Hst)
  | 0, _, _, _ => none
  | n + 1, a1, a2, h =>
    (if 5 ≤ a2 then
      (some (a1, h))
    else
      gck a2 5 (gck a1 5 ((if (h.1 12 a2.toNatClampNeg) ≤ (h.1 12 a1.toNatClampNeg) then
        (jb_X1_greatestRemainder_30 (lp_X1_greatestRemainder_4 n) a1 a2 h)
      else
        (jb_X1_greatestRemainder_30 (lp_X1_greatestRemainder_4 n) a2 a2 h)))))
def f_X1_greatestRemainder  (h : Hst) : Option (Int32 × Hst) :=
  (lp_X1_greatestRemainder_4 FU 0 1 h)
set_option maxRecDepth 20000 in
theorem gjb_X1_greatestRemainder_30 (γ : Gv) (R4 : Int32 → Int32 → Hst → Option (Int32 × Hst)) (hR4 : ∀ (a1 : Int32) (a2 : Int32) (h : Hst), G γ RX1 cX1_greatestRemainder 3 (some .int) [] vI 0 0 4 [(0, .ref (gad γ 10)), (1, .int a1), (2, .int a2)] [] h (R4 a1 a2 h)) (a1 : Int32) (a2 : Int32) (h : Hst) : G γ RX1 cX1_greatestRemainder 3 (some .int) [] vI 0 0 30 [(0, .ref (gad γ 10)), (1, .int a1), (2, .int a2)] [] h (jb_X1_greatestRemainder_30 R4 a1 a2 h) := by
  unfold jb_X1_greatestRemainder_30
  refine g_iinc (pc := 30) (q := 2) (v := a2 + 1) (lv' := [(2, .int (a2 + 1)), (0, .ref (gad γ 10)), (1, .int a1)]) dX1_greatestRemainder_30 rfl rfl (by decide) rfl ?_
  refine g_goto (pc := 33) (tgt := 4) dX1_greatestRemainder_33 (by decide) ?_
  exact g_sub [1, 2, 0] rfl (hR4 a1 (a2 + 1) h)
set_option maxRecDepth 20000 in
theorem glp_X1_greatestRemainder_4 (γ : Gv)  : ∀ (n : Nat) (a1 : Int32) (a2 : Int32) (h : Hst), G γ RX1 cX1_greatestRemainder 3 (some .int) [] vI 0 0 4 [(0, .ref (gad γ 10)), (1, .int a1), (2, .int a2)] [] h (lp_X1_greatestRemainder_4 n a1 a2 h) := by
  intro n
  induction n with
  | zero => intro a1 a2 h; exact g_none
  | succ n ih =>
    intro a1 a2 h
    rw [lp_X1_greatestRemainder_4]
    refine g_iload_n (pc := 4) dX1_greatestRemainder_4 rfl 2 rfl ?_
    refine g_aload_n (pc := 5) dX1_greatestRemainder_5 rfl 0 rfl ?_
    refine gf_RX1_19_10 (pc := 6) dX1_greatestRemainder_6 ?_
    refine g_alen (pc := 9) (n := 0) (v := 5) 12 0 (gat_12 _ _) rfl rfl dX1_greatestRemainder_9 ?_
    refine g_icmp_ge (pc := 10) (tgt := 36) dX1_greatestRemainder_10 (by decide) ?_ ?_
    · refine g_iload_n (pc := 36) dX1_greatestRemainder_36 rfl 1 rfl ?_
      exact g_ireturn (pc := 37) (ty := .int) dX1_greatestRemainder_37 rfl rfl rfl
    · refine g_aload_n (pc := 13) dX1_greatestRemainder_13 rfl 0 rfl ?_
      refine gf_RX1_19_10 (pc := 14) dX1_greatestRemainder_14 ?_
      refine g_iload_n (pc := 17) dX1_greatestRemainder_17 rfl 2 rfl ?_
      refine g_iald (pc := 18) 12 (gat_12 _ _) dX1_greatestRemainder_18 ?_
      refine g_aload_n (pc := 19) dX1_greatestRemainder_19 rfl 0 rfl ?_
      refine gf_RX1_19_10 (pc := 20) dX1_greatestRemainder_20 ?_
      refine g_iload_n (pc := 23) dX1_greatestRemainder_23 rfl 1 rfl ?_
      refine g_iald (pc := 24) 12 (gat_12 _ _) dX1_greatestRemainder_24 ?_
      refine g_icmp_le (pc := 25) (tgt := 30) dX1_greatestRemainder_25 (by decide) ?_ ?_
      · exact gjb_X1_greatestRemainder_30 γ (lp_X1_greatestRemainder_4 n) ih a1 a2 h
      · refine g_iload_n (pc := 28) dX1_greatestRemainder_28 rfl 2 rfl ?_
        refine g_istore_n (pc := 29) (lv' := [(1, .int a2), (0, .ref (gad γ 10)), (2, .int a2)]) dX1_greatestRemainder_29 rfl (by decide) rfl ?_
        exact g_sub [1, 0, 2] rfl (gjb_X1_greatestRemainder_30 γ (lp_X1_greatestRemainder_4 n) ih a2 a2 h)
set_option maxRecDepth 20000 in
theorem ge_X1_greatestRemainder (γ : Gv)  (h : Hst) : G γ RX1 cX1_greatestRemainder 3 (some .int) [] vI 0 0 0 (lv_args 0 [.ref (gad γ 10)]) [] h (f_X1_greatestRemainder h) := by
  show G γ RX1 cX1_greatestRemainder 3 (some .int) [] vI 0 0 0 [(0, .ref (gad γ 10))] [] h (f_X1_greatestRemainder h)
  unfold f_X1_greatestRemainder
  refine g_iconst (pc := 0) (v := 0) dX1_greatestRemainder_0 (by decide) ?_
  refine g_istore_n (pc := 1) (lv' := [(1, .int 0), (0, .ref (gad γ 10))]) dX1_greatestRemainder_1 rfl (by decide) rfl ?_
  refine g_iconst (pc := 2) (v := 1) dX1_greatestRemainder_2 (by decide) ?_
  refine g_istore_n (pc := 3) (lv' := [(2, .int 1), (1, .int 0), (0, .ref (gad γ 10))]) dX1_greatestRemainder_3 rfl (by decide) rfl ?_
  exact g_sub [2, 1, 0] rfl (glp_X1_greatestRemainder_4 γ FU 0 1 h)
