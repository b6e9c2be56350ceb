def jb_X6_isVariety_14  (s0 : Int32) (h : Hst) : Option (Int32 × Hst) :=
  (gzr s0 (some (s0, h)))
def jb_X6_isVariety_13   (h : Hst) : Option (Int32 × Hst) :=
  (jb_X6_isVariety_14 0 h)
def f_X6_isVariety (p0 : Int32) (h : Hst) : Option (Int32 × Hst) :=
  (if p0 < 0 then
    (jb_X6_isVariety_13 h)
  else
    (if 5 ≤ p0 then
      (jb_X6_isVariety_13 h)
    else
      (jb_X6_isVariety_14 1 h)))
set_option maxRecDepth 20000 in
theorem gjb_X6_isVariety_14 (γ : Gv)  (s0 : Int32) (h : Hst) : G γ RX6 cX6_isVariety 1 (some .boolean) [] vI 0 0 14 [] [.int s0] h (jb_X6_isVariety_14 s0 h) := by
  unfold jb_X6_isVariety_14
  exact g_zreturn (pc := 14) dX6_isVariety_14 rfl rfl
set_option maxRecDepth 20000 in
theorem gjb_X6_isVariety_13 (γ : Gv)   (h : Hst) : G γ RX6 cX6_isVariety 1 (some .boolean) [] vI 0 0 13 [] [] h (jb_X6_isVariety_13 h) := by
  unfold jb_X6_isVariety_13
  refine g_iconst (pc := 13) (v := 0) dX6_isVariety_13 (by decide) ?_
  exact gjb_X6_isVariety_14 γ 0 h
set_option maxRecDepth 20000 in
theorem ge_X6_isVariety (γ : Gv) (p0 : Int32) (h : Hst) : G γ RX6 cX6_isVariety 1 (some .boolean) [] vI 0 0 0 (lv_args 0 [.int p0]) [] h (f_X6_isVariety p0 h) := by
  show G γ RX6 cX6_isVariety 1 (some .boolean) [] vI 0 0 0 [(0, .int p0)] [] h (f_X6_isVariety p0 h)
  unfold f_X6_isVariety
  refine g_iload_n (pc := 0) dX6_isVariety_0 rfl 0 rfl ?_
  refine g_if_lt (pc := 1) (tgt := 13) dX6_isVariety_1 (by decide) ?_ ?_
  · exact g_sub [] rfl (gjb_X6_isVariety_13 γ h)
  · refine g_iload_n (pc := 4) dX6_isVariety_4 rfl 0 rfl ?_
    refine g_iconst (pc := 5) (v := 5) dX6_isVariety_5 (by decide) ?_
    refine g_icmp_ge (pc := 6) (tgt := 13) dX6_isVariety_6 (by decide) ?_ ?_
    · exact g_sub [] rfl (gjb_X6_isVariety_13 γ h)
    · refine g_iconst (pc := 9) (v := 1) dX6_isVariety_9 (by decide) ?_
      refine g_goto (pc := 10) (tgt := 14) dX6_isVariety_10 (by decide) ?_
      exact g_sub [] rfl (gjb_X6_isVariety_14 γ 1 h)
def f_X6_checkVariety (p0 : Int32) (h : Hst) : Option (Hst) :=
  gb (f_X6_isVariety p0 h) fun x2 h1 =>
  (if x2 = 0 then
    none
  else
    (some h1))
set_option maxRecDepth 20000 in
theorem ge_X6_checkVariety (γ : Gv) (p0 : Int32) (h : Hst) : G γ RX6 cX6_checkVariety 1 none [] vV 1 0 0 (lv_args 0 [.int p0]) [] h (f_X6_checkVariety p0 h) := by
  show G γ RX6 cX6_checkVariety 1 none [] vV 1 0 0 [(0, .int p0)] [] h (f_X6_checkVariety p0 h)
  unfold f_X6_checkVariety
  refine g_iload_n (pc := 0) dX6_checkVariety_0 rfl 0 rfl ?_
  refine g_cI (pc := 1) (st := []) (fun r hr => gRunS (As := [.int p0]) (ge_X6_isVariety γ p0 h) hr wv_RX6_75 rfl (Nat.le_of_ble_eq_true rfl) rfl (Nat.le_of_ble_eq_true rfl) (Nat.le_of_ble_eq_true rfl) dX6_checkVariety_1) (fun x2 h1 => ?_)
  refine g_if_ne (pc := 4) (tgt := 18) dX6_checkVariety_4 (by decide) ?_ ?_
  · exact g_return (pc := 18) dX6_checkVariety_18 rfl rfl
  · exact g_none
def jb_X6_isOutside_15  (s0 : Int32) (h : Hst) : Option (Int32 × Hst) :=
  (gzr s0 (some (s0, h)))
def jb_X6_isOutside_10   (h : Hst) : Option (Int32 × Hst) :=
  (jb_X6_isOutside_15 1 h)
def f_X6_isOutside (p0 : Int32) (p1 : Int32) (p2 : Int32) (h : Hst) : Option (Int32 × Hst) :=
  (if p0 < p1 then
    (jb_X6_isOutside_10 h)
  else
    (if p0 ≤ p2 then
      (jb_X6_isOutside_15 0 h)
    else
      (jb_X6_isOutside_10 h)))
set_option maxRecDepth 20000 in
theorem gjb_X6_isOutside_15 (γ : Gv)  (s0 : Int32) (h : Hst) : G γ RX6 cX6_isOutside 3 (some .boolean) [] vI 0 0 15 [] [.int s0] h (jb_X6_isOutside_15 s0 h) := by
  unfold jb_X6_isOutside_15
  exact g_zreturn (pc := 15) dX6_isOutside_15 rfl rfl
set_option maxRecDepth 20000 in
theorem gjb_X6_isOutside_10 (γ : Gv)   (h : Hst) : G γ RX6 cX6_isOutside 3 (some .boolean) [] vI 0 0 10 [] [] h (jb_X6_isOutside_10 h) := by
  unfold jb_X6_isOutside_10
  refine g_iconst (pc := 10) (v := 1) dX6_isOutside_10 (by decide) ?_
  refine g_goto (pc := 11) (tgt := 15) dX6_isOutside_11 (by decide) ?_
  exact gjb_X6_isOutside_15 γ 1 h
set_option maxRecDepth 20000 in
theorem ge_X6_isOutside (γ : Gv) (p0 : Int32) (p1 : Int32) (p2 : Int32) (h : Hst) : G γ RX6 cX6_isOutside 3 (some .boolean) [] vI 0 0 0 (lv_args 0 [.int p0, .int p1, .int p2]) [] h (f_X6_isOutside p0 p1 p2 h) := by
  show G γ RX6 cX6_isOutside 3 (some .boolean) [] vI 0 0 0 [(0, .int p0), (1, .int p1), (2, .int p2)] [] h (f_X6_isOutside p0 p1 p2 h)
  unfold f_X6_isOutside
  refine g_iload_n (pc := 0) dX6_isOutside_0 rfl 0 rfl ?_
  refine g_iload_n (pc := 1) dX6_isOutside_1 rfl 1 rfl ?_
  refine g_icmp_lt (pc := 2) (tgt := 10) dX6_isOutside_2 (by decide) ?_ ?_
  · exact g_sub [] rfl (gjb_X6_isOutside_10 γ h)
  · refine g_iload_n (pc := 5) dX6_isOutside_5 rfl 0 rfl ?_
    refine g_iload_n (pc := 6) dX6_isOutside_6 rfl 2 rfl ?_
    refine g_icmp_le (pc := 7) (tgt := 14) dX6_isOutside_7 (by decide) ?_ ?_
    · refine g_iconst (pc := 14) (v := 0) dX6_isOutside_14 (by decide) ?_
      exact g_sub [] rfl (gjb_X6_isOutside_15 γ 0 h)
    · exact g_sub [] rfl (gjb_X6_isOutside_10 γ h)
def jb_X5_get_5_37  (s0 : Int32) (h : Hst) : Option (Int32 × Hst) :=
  (some (s0, h))
def jb_X5_get_5_36   (h : Hst) : Option (Int32 × Hst) :=
  (jb_X5_get_5_37 0 h)
def f_X5_get_5 (p0 : Int32) (p1 : Int32) (h : Hst) : Option (Int32 × Hst) :=
  gl ((514 + (p0 * 5)) + p1) fun x1 =>
  (if x1 < 0 then
    (jb_X5_get_5_36 h)
  else
    (if 553 ≤ x1 then
      (jb_X5_get_5_36 h)
    else
      gck x1 553 ((jb_X5_get_5_37 (h.1 8 x1.toNatClampNeg) h))))
set_option maxRecDepth 20000 in
theorem gjb_X5_get_5_37 (γ : Gv)  (s0 : Int32) (h : Hst) : G γ RX5 cX5_get 4 (some .int) [] vI 0 0 37 [] [.int s0] h (jb_X5_get_5_37 s0 h) := by
  unfold jb_X5_get_5_37
  exact g_ireturn (pc := 37) (ty := .int) dX5_get_37 rfl rfl rfl
set_option maxRecDepth 20000 in
theorem gjb_X5_get_5_36 (γ : Gv)   (h : Hst) : G γ RX5 cX5_get 4 (some .int) [] vI 0 0 36 [] [] h (jb_X5_get_5_36 h) := by
  unfold jb_X5_get_5_36
  refine g_iconst (pc := 36) (v := 0) dX5_get_36 (by decide) ?_
  exact gjb_X5_get_5_37 γ 0 h
set_option maxRecDepth 20000 in
theorem ge_X5_get_5 (γ : Gv) (p0 : Int32) (p1 : Int32) (h : Hst) : G γ RX5 cX5_get 4 (some .int) [] vI 0 0 0 (lv_args 0 [.ref (gad γ 5), .int p0, .int p1]) [] h (f_X5_get_5 p0 p1 h) := by
  show G γ RX5 cX5_get 4 (some .int) [] vI 0 0 0 [(0, .ref (gad γ 5)), (1, .int p0), (2, .int p1)] [] h (f_X5_get_5 p0 p1 h)
  unfold f_X5_get_5
  refine g_aload_n (pc := 0) dX5_get_0 rfl 0 rfl ?_
  refine gf_RX5_13_5 (pc := 1) dX5_get_1 ?_
  refine g_iload_n (pc := 4) dX5_get_4 rfl 1 rfl ?_
  refine g_aload_n (pc := 5) dX5_get_5 rfl 0 rfl ?_
  refine gf_RX5_17_5 (pc := 6) dX5_get_6 ?_
  refine g_imul (pc := 9) dX5_get_9 ?_
  refine g_iadd (pc := 10) dX5_get_10 ?_
  refine g_iload_n (pc := 11) dX5_get_11 rfl 2 rfl ?_
  refine g_iadd (pc := 12) dX5_get_12 ?_
  refine g_nmi (fun x1 => ?_)
  refine g_istore_n (pc := 13) (lv' := [(3, .int x1), (0, .ref (gad γ 5)), (1, .int p0), (2, .int p1)]) dX5_get_13 rfl (by decide) rfl ?_
  refine g_iload_n (pc := 14) dX5_get_14 rfl 0 rfl ?_
  refine g_if_lt (pc := 15) (tgt := 36) dX5_get_15 (by decide) ?_ ?_
  · exact g_sub [] rfl (gjb_X5_get_5_36 γ h)
  · refine g_iload_n (pc := 18) dX5_get_18 rfl 0 rfl ?_
    refine g_aload_n (pc := 19) dX5_get_19 rfl 1 rfl ?_
    refine gf_RX5_7_5 (pc := 20) dX5_get_20 ?_
    refine g_alen (pc := 23) (n := 0) (v := 553) 8 0 (gat_8 _ _) rfl rfl dX5_get_23 ?_
    refine g_icmp_ge (pc := 24) (tgt := 36) dX5_get_24 (by decide) ?_ ?_
    · exact g_sub [] rfl (gjb_X5_get_5_36 γ h)
    · refine g_aload_n (pc := 27) dX5_get_27 rfl 1 rfl ?_
      refine gf_RX5_7_5 (pc := 28) dX5_get_28 ?_
      refine g_iload_n (pc := 31) dX5_get_31 rfl 0 rfl ?_
      refine g_iald (pc := 32) 8 (gat_8 _ _) dX5_get_32 ?_
      refine g_goto (pc := 33) (tgt := 37) dX5_get_33 (by decide) ?_
      exact g_sub [] rfl (gjb_X5_get_5_37 γ (h.1 8 x1.toNatClampNeg) h)
def f_X0_placeOfSaved (p0 : Int32) (h : Hst) : Option (Int32 × Hst) :=
  gdz 6 ((some ((((h.1 1 8) + p0) - ((h.1 1 8) + p0) / 6 * 6) * 553, h)))
set_option maxRecDepth 20000 in
theorem ge_X0_placeOfSaved (γ : Gv) (p0 : Int32) (h : Hst) : G γ RX0 cX0_placeOfSaved 2 (some .int) [] vI 0 0 0 (lv_args 0 [.ref (gad γ 1), .int p0]) [] h (f_X0_placeOfSaved p0 h) := by
  show G γ RX0 cX0_placeOfSaved 2 (some .int) [] vI 0 0 0 [(0, .ref (gad γ 1)), (1, .int p0)] [] h (f_X0_placeOfSaved p0 h)
  unfold f_X0_placeOfSaved
  refine g_aload_n (pc := 0) dX0_placeOfSaved_0 rfl 0 rfl ?_
  refine gf_RX0_69_1 (pc := 1) dX0_placeOfSaved_1 ?_
  refine g_iload_n (pc := 4) dX0_placeOfSaved_4 rfl 1 rfl ?_
  refine g_iadd (pc := 5) dX0_placeOfSaved_5 ?_
  refine g_bipush (pc := 6) (v := 6) dX0_placeOfSaved_6 (by decide) ?_
  refine g_irem (pc := 8) dX0_placeOfSaved_8 ?_
  refine g_sipush (pc := 9) (v := 553) dX0_placeOfSaved_9 (by decide) ?_
  refine g_imul (pc := 12) dX0_placeOfSaved_12 ?_
  exact g_ireturn (pc := 13) (ty := .int) dX0_placeOfSaved_13 rfl rfl rfl
def jb_X0_save_74   (h : Hst) : Option (Hst) :=
  gl (hst h 1 9 ((h.1 1 9) + 1)) fun h1 =>
  (some h1)
def jb_X0_save_32   (h : Hst) : Option (Hst) :=
  gb (f_X0_placeOfSaved (h.1 1 9) h) fun x2 h1 =>
  (if x2 < 0 then
    (jb_X0_save_74 h1)
  else
    (if (3318 - 553) < x2 then
      (jb_X0_save_74 h1)
    else
      gcp 0 x2 553 553 3318 (gl (hso h1 9 (va_cpy (h1.1 8) (h1.1 9) (0 : Int32).toNatClampNeg x2.toNatClampNeg (553 : Int32).toNatClampNeg)) fun h3 =>
      (jb_X0_save_74 h3))))
def f_X0_save  (h : Hst) : Option (Hst) :=
  (if (h.1 1 9) = 6 then
    gdz 6 (gl (hst h 1 8 (((h.1 1 8) + 1) - ((h.1 1 8) + 1) / 6 * 6)) fun h1 =>
    gl (hst h1 1 9 ((h1.1 1 9) - 1)) fun h2 =>
    (jb_X0_save_32 h2))
  else
    (jb_X0_save_32 h))
set_option maxRecDepth 20000 in
theorem gjb_X0_save_74 (γ : Gv)   (h : Hst) : G γ RX0 cX0_save 2 none [] vV 1 0 74 [(0, .ref (gad γ 1))] [] h (jb_X0_save_74 h) := by
  unfold jb_X0_save_74
  refine g_aload_n (pc := 74) dX0_save_74 rfl 0 rfl ?_
  refine g_dup (pc := 75) dX0_save_75 rfl ?_
  refine gf_RX0_65_1 (pc := 76) dX0_save_76 ?_
  refine g_iconst (pc := 79) (v := 1) dX0_save_79 (by decide) ?_
  refine g_iadd (pc := 80) dX0_save_80 ?_
  refine pf_RX0_65_1 (pc := 81) dX0_save_81 ?_
  refine g_nmh (fun h1 => ?_)
  exact g_return (pc := 84) dX0_save_84 rfl rfl
set_option maxRecDepth 20000 in
theorem gjb_X0_save_32 (γ : Gv)   (h : Hst) : G γ RX0 cX0_save 2 none [] vV 1 0 32 [(0, .ref (gad γ 1))] [] h (jb_X0_save_32 h) := by
  unfold jb_X0_save_32
  refine g_aload_n (pc := 32) dX0_save_32 rfl 0 rfl ?_
  refine g_aload_n (pc := 33) dX0_save_33 rfl 0 rfl ?_
  refine gf_RX0_65_1 (pc := 34) dX0_save_34 ?_
  refine g_cI (pc := 37) (st := []) (fun r hr => gRunV (As := [.int (h.1 1 9)]) 1 (ge_X0_placeOfSaved γ (h.1 1 9) h) hr wv_RX0_72 rfl (Nat.le_of_ble_eq_true rfl) (gat_1 _ _) rfl rfl (Nat.le_of_ble_eq_true rfl) (Nat.le_of_ble_eq_true rfl) dX0_save_37) (fun x2 h1 => ?_)
  refine g_istore_n (pc := 40) (lv' := [(1, .int x2), (0, .ref (gad γ 1))]) dX0_save_40 rfl (by decide) rfl ?_
  refine g_iload_n (pc := 41) dX0_save_41 rfl 0 rfl ?_
  refine g_if_lt (pc := 42) (tgt := 74) dX0_save_42 (by decide) ?_ ?_
  · exact g_sub [1] rfl (gjb_X0_save_74 γ h1)
  · refine g_iload_n (pc := 45) dX0_save_45 rfl 0 rfl ?_
    refine g_aload_n (pc := 46) dX0_save_46 rfl 1 rfl ?_
    refine gf_RX0_15_1 (pc := 47) dX0_save_47 ?_
    refine g_alen (pc := 50) (n := 0) (v := 3318) 9 0 (gat_9 _ _) rfl rfl dX0_save_50 ?_
    refine g_sipush (pc := 51) (v := 553) dX0_save_51 (by decide) ?_
    refine g_isub (pc := 54) dX0_save_54 ?_
    refine g_icmp_gt (pc := 55) (tgt := 74) dX0_save_55 (by decide) ?_ ?_
    · exact g_sub [1] rfl (gjb_X0_save_74 γ h1)
    · refine g_aload_n (pc := 58) dX0_save_58 rfl 1 rfl ?_
      refine gf_RX0_11_1 (pc := 59) dX0_save_59 ?_
      refine g_iconst (pc := 62) (v := 0) dX0_save_62 (by decide) ?_
      refine g_aload_n (pc := 63) dX0_save_63 rfl 1 rfl ?_
      refine gf_RX0_15_1 (pc := 64) dX0_save_64 ?_
      refine g_iload_n (pc := 67) dX0_save_67 rfl 0 rfl ?_
      refine g_sipush (pc := 68) (v := 553) dX0_save_68 (by decide) ?_
      refine g_copyi (pc := 71) 8 9 wk_RX0_76 wa_1 wa_2 wa_3 (gat_8 _ _) (gat_9 _ _) (gset_9 _ _ _) (Nat.le_of_ble_eq_true rfl) (Nat.le_of_ble_eq_true rfl) dX0_save_71 ?_
      refine g_nmh (fun h3 => ?_)
      exact g_sub [1] rfl (gjb_X0_save_74 γ h3)
set_option maxRecDepth 20000 in
theorem ge_X0_save (γ : Gv)  (h : Hst) : G γ RX0 cX0_save 2 none [] vV 1 0 0 (lv_args 0 [.ref (gad γ 1)]) [] h (f_X0_save h) := by
  show G γ RX0 cX0_save 2 none [] vV 1 0 0 [(0, .ref (gad γ 1))] [] h (f_X0_save h)
  unfold f_X0_save
  refine g_aload_n (pc := 0) dX0_save_0 rfl 0 rfl ?_
  refine gf_RX0_65_1 (pc := 1) dX0_save_1 ?_
  refine g_bipush (pc := 4) (v := 6) dX0_save_4 (by decide) ?_
  refine g_icmp_ne (pc := 6) (tgt := 32) dX0_save_6 (by decide) ?_ ?_
  · exact gjb_X0_save_32 γ h
  · refine g_aload_n (pc := 9) dX0_save_9 rfl 0 rfl ?_
    refine g_aload_n (pc := 10) dX0_save_10 rfl 0 rfl ?_
    refine gf_RX0_69_1 (pc := 11) dX0_save_11 ?_
    refine g_iconst (pc := 14) (v := 1) dX0_save_14 (by decide) ?_
    refine g_iadd (pc := 15) dX0_save_15 ?_
    refine g_bipush (pc := 16) (v := 6) dX0_save_16 (by decide) ?_
    refine g_irem (pc := 18) dX0_save_18 ?_
    refine pf_RX0_69_1 (pc := 19) dX0_save_19 ?_
    refine g_nmh (fun h1 => ?_)
    refine g_aload_n (pc := 22) dX0_save_22 rfl 0 rfl ?_
    refine g_dup (pc := 23) dX0_save_23 rfl ?_
    refine gf_RX0_65_1 (pc := 24) dX0_save_24 ?_
    refine g_iconst (pc := 27) (v := 1) dX0_save_27 (by decide) ?_
    refine g_isub (pc := 28) dX0_save_28 ?_
    refine pf_RX0_65_1 (pc := 29) dX0_save_29 ?_
    refine g_nmh (fun h2 => ?_)
    exact gjb_X0_save_32 γ h2
def jb_X5_put_5_38   (h : Hst) : Option (Hst) :=
  (some h)
def f_X5_put_5 (p0 : Int32) (p1 : Int32) (p2 : Int32) (h : Hst) : Option (Hst) :=
  gl ((514 + (p0 * 5)) + p1) fun x1 =>
  (if x1 < 0 then
    (jb_X5_put_5_38 h)
  else
    (if 553 ≤ x1 then
      (jb_X5_put_5_38 h)
    else
      gck x1 553 (gl (hst h 8 x1.toNatClampNeg p2) fun h2 =>
      (jb_X5_put_5_38 h2))))
set_option maxRecDepth 20000 in
theorem gjb_X5_put_5_38 (γ : Gv)   (h : Hst) : G γ RX5 cX5_put 5 none [] vV 0 0 38 [] [] h (jb_X5_put_5_38 h) := by
  unfold jb_X5_put_5_38
  exact g_return (pc := 38) dX5_put_38 rfl rfl
set_option maxRecDepth 20000 in
theorem ge_X5_put_5 (γ : Gv) (p0 : Int32) (p1 : Int32) (p2 : Int32) (h : Hst) : G γ RX5 cX5_put 5 none [] vV 0 0 0 (lv_args 0 [.ref (gad γ 5), .int p0, .int p1, .int p2]) [] h (f_X5_put_5 p0 p1 p2 h) := by
  show G γ RX5 cX5_put 5 none [] vV 0 0 0 [(0, .ref (gad γ 5)), (1, .int p0), (2, .int p1), (3, .int p2)] [] h (f_X5_put_5 p0 p1 p2 h)
  unfold f_X5_put_5
  refine g_aload_n (pc := 0) dX5_put_0 rfl 0 rfl ?_
  refine gf_RX5_13_5 (pc := 1) dX5_put_1 ?_
  refine g_iload_n (pc := 4) dX5_put_4 rfl 1 rfl ?_
  refine g_aload_n (pc := 5) dX5_put_5 rfl 0 rfl ?_
  refine gf_RX5_17_5 (pc := 6) dX5_put_6 ?_
  refine g_imul (pc := 9) dX5_put_9 ?_
  refine g_iadd (pc := 10) dX5_put_10 ?_
  refine g_iload_n (pc := 11) dX5_put_11 rfl 2 rfl ?_
  refine g_iadd (pc := 12) dX5_put_12 ?_
  refine g_nmi (fun x1 => ?_)
  refine g_istore (pc := 13) (lv' := [(4, .int x1), (0, .ref (gad γ 5)), (1, .int p0), (2, .int p1), (3, .int p2)]) dX5_put_13 (by decide) rfl ?_
  refine g_iload (pc := 15) dX5_put_15 0 rfl ?_
  refine g_if_lt (pc := 17) (tgt := 38) dX5_put_17 (by decide) ?_ ?_
  · exact g_sub [] rfl (gjb_X5_put_5_38 γ h)
  · refine g_iload (pc := 20) dX5_put_20 0 rfl ?_
    refine g_aload_n (pc := 22) dX5_put_22 rfl 1 rfl ?_
    refine gf_RX5_7_5 (pc := 23) dX5_put_23 ?_
    refine g_alen (pc := 26) (n := 0) (v := 553) 8 0 (gat_8 _ _) rfl rfl dX5_put_26 ?_
    refine g_icmp_ge (pc := 27) (tgt := 38) dX5_put_27 (by decide) ?_ ?_
    · exact g_sub [] rfl (gjb_X5_put_5_38 γ h)
    · refine g_aload_n (pc := 30) dX5_put_30 rfl 1 rfl ?_
      refine gf_RX5_7_5 (pc := 31) dX5_put_31 ?_
      refine g_iload (pc := 34) dX5_put_34 0 rfl ?_
      refine g_iload_n (pc := 36) dX5_put_36 rfl 4 rfl ?_
      refine g_iast (pc := 37) 8 (gat_8 _ _) (gset_8 _ _ _) dX5_put_37 ?_
      refine g_nmh (fun h2 => ?_)
      exact g_sub [] rfl (gjb_X5_put_5_38 γ h2)
def f_X6_setYield (p0 : Int32) (p1 : Int32) (h : Hst) : Option (Int32 × Hst) :=
  gbv (f_X6_checkVariety p0 h) fun h1 =>
  gb (f_X6_isOutside p1 50 400 h1) fun x3 h2 =>
  (if x3 = 0 then
    gb (f_X5_get_5 p0 0 h2) fun x5 h4 =>
    gbv (f_X0_save h4) fun h6 =>
    gbv (f_X5_put_5 p0 0 p1 h6) fun h7 =>
    (some (x5, h7))
  else
    none)
set_option maxRecDepth 20000 in
theorem ge_X6_setYield (γ : Gv) (p0 : Int32) (p1 : Int32) (h : Hst) : G γ RX6 cX6_setYield 4 (some .int) [] vI 2 0 0 (lv_args 0 [.ref (gad γ 0), .int p0, .int p1]) [] h (f_X6_setYield p0 p1 h) := by
  show G γ RX6 cX6_setYield 4 (some .int) [] vI 2 0 0 [(0, .ref (gad γ 0)), (1, .int p0), (2, .int p1)] [] h (f_X6_setYield p0 p1 h)
  unfold f_X6_setYield
  refine g_iload_n (pc := 0) dX6_setYield_0 rfl 1 rfl ?_
  refine g_cV (pc := 1) (st := []) (fun r hr => gRunS (As := [.int p0]) (ge_X6_checkVariety γ p0 h) hr wv_RX6_108 rfl (Nat.le_of_ble_eq_true rfl) rfl (Nat.le_of_ble_eq_true rfl) (Nat.le_of_ble_eq_true rfl) dX6_setYield_1) (fun h1 => ?_)
  refine g_iload_n (pc := 4) dX6_setYield_4 rfl 2 rfl ?_
  refine g_bipush (pc := 5) (v := 50) dX6_setYield_5 (by decide) ?_
  refine g_sipush (pc := 7) (v := 400) dX6_setYield_7 (by decide) ?_
  refine g_cI (pc := 10) (st := []) (fun r hr => gRunS (As := [.int p1, .int 50, .int 400]) (ge_X6_isOutside γ p1 50 400 h1) hr wv_RX6_79 rfl (Nat.le_of_ble_eq_true rfl) rfl (Nat.le_of_ble_eq_true rfl) (Nat.le_of_ble_eq_true rfl) dX6_setYield_10) (fun x3 h2 => ?_)
  refine g_if_eq (pc := 13) (tgt := 26) dX6_setYield_13 (by decide) ?_ ?_
  · refine g_aload_n (pc := 26) dX6_setYield_26 rfl 0 rfl ?_
    refine gf_RX6_12_0 (pc := 27) dX6_setYield_27 ?_
    refine gf_RX6_113_1 (pc := 30) dX6_setYield_30 ?_
    refine g_iload_n (pc := 33) dX6_setYield_33 rfl 1 rfl ?_
    refine g_iconst (pc := 34) (v := 0) dX6_setYield_34 (by decide) ?_
    refine g_cI (pc := 35) (st := []) (fun r hr => gRunV (As := [.int p0, .int 0]) 5 (ge_X5_get_5 γ p0 0 h2) hr wv_RX6_116 rfl (Nat.le_of_ble_eq_true rfl) (gat_5 _ _) rfl rfl (Nat.le_of_ble_eq_true rfl) (Nat.le_of_ble_eq_true rfl) dX6_setYield_35) (fun x5 h4 => ?_)
    refine g_istore_n (pc := 38) (lv' := [(3, .int x5), (0, .ref (gad γ 0)), (1, .int p0), (2, .int p1)]) dX6_setYield_38 rfl (by decide) rfl ?_
    refine g_aload_n (pc := 39) dX6_setYield_39 rfl 1 rfl ?_
    refine gf_RX6_12_0 (pc := 40) dX6_setYield_40 ?_
    refine g_cV (pc := 43) (st := []) (fun r hr => gRunV (As := []) 1 (ge_X0_save γ h4) hr wv_RX6_64 rfl (Nat.le_of_ble_eq_true rfl) (gat_1 _ _) rfl rfl (Nat.le_of_ble_eq_true rfl) (Nat.le_of_ble_eq_true rfl) dX6_setYield_43) (fun h6 => ?_)
    refine g_aload_n (pc := 46) dX6_setYield_46 rfl 1 rfl ?_
    refine gf_RX6_12_0 (pc := 47) dX6_setYield_47 ?_
    refine gf_RX6_113_1 (pc := 50) dX6_setYield_50 ?_
    refine g_iload_n (pc := 53) dX6_setYield_53 rfl 2 rfl ?_
    refine g_iconst (pc := 54) (v := 0) dX6_setYield_54 (by decide) ?_
    refine g_iload_n (pc := 55) dX6_setYield_55 rfl 3 rfl ?_
    refine g_cV (pc := 56) (st := []) (fun r hr => gRunV (As := [.int p0, .int 0, .int p1]) 5 (ge_X5_put_5 γ p0 0 p1 h6) hr wv_RX6_102 rfl (Nat.le_of_ble_eq_true rfl) (gat_5 _ _) rfl rfl (Nat.le_of_ble_eq_true rfl) (Nat.le_of_ble_eq_true rfl) dX6_setYield_56) (fun h7 => ?_)
    refine g_iload_n (pc := 59) dX6_setYield_59 rfl 0 rfl ?_
    exact g_ireturn (pc := 60) (ty := .int) dX6_setYield_60 rfl rfl rfl
  · exact g_none
def jb_X3_get_7_30  (s0 : Int32) (h : Hst) : Option (Int32 × Hst) :=
  (some (s0, h))
def jb_X3_get_7_29   (h : Hst) : Option (Int32 × Hst) :=
  (jb_X3_get_7_30 0 h)
def f_X3_get_7 (p0 : Int32) (h : Hst) : Option (Int32 × Hst) :=
  gl (546 + p0) fun x1 =>
  (if x1 < 0 then
    (jb_X3_get_7_29 h)
  else
    (if 553 ≤ x1 then
      (jb_X3_get_7_29 h)
    else
      gck x1 553 ((jb_X3_get_7_30 (h.1 8 x1.toNatClampNeg) h))))
set_option maxRecDepth 20000 in
theorem gjb_X3_get_7_30 (γ : Gv)  (s0 : Int32) (h : Hst) : G γ RX3 cX3_get 3 (some .int) [] vI 0 0 30 [] [.int s0] h (jb_X3_get_7_30 s0 h) := by
  unfold jb_X3_get_7_30
  exact g_ireturn (pc := 30) (ty := .int) dX3_get_30 rfl rfl rfl
set_option maxRecDepth 20000 in
theorem gjb_X3_get_7_29 (γ : Gv)   (h : Hst) : G γ RX3 cX3_get 3 (some .int) [] vI 0 0 29 [] [] h (jb_X3_get_7_29 h) := by
  unfold jb_X3_get_7_29
  refine g_iconst (pc := 29) (v := 0) dX3_get_29 (by decide) ?_
  exact gjb_X3_get_7_30 γ 0 h
set_option maxRecDepth 20000 in
theorem ge_X3_get_7 (γ : Gv) (p0 : Int32) (h : Hst) : G γ RX3 cX3_get 3 (some .int) [] vI 0 0 0 (lv_args 0 [.ref (gad γ 7), .int p0]) [] h (f_X3_get_7 p0 h) := by
  show G γ RX3 cX3_get 3 (some .int) [] vI 0 0 0 [(0, .ref (gad γ 7)), (1, .int p0)] [] h (f_X3_get_7 p0 h)
  unfold f_X3_get_7
  refine g_aload_n (pc := 0) dX3_get_0 rfl 0 rfl ?_
  refine gf_RX3_13_7 (pc := 1) dX3_get_1 ?_
  refine g_iload_n (pc := 4) dX3_get_4 rfl 1 rfl ?_
  refine g_iadd (pc := 5) dX3_get_5 ?_
  refine g_nmi (fun x1 => ?_)
  refine g_istore_n (pc := 6) (lv' := [(2, .int x1), (0, .ref (gad γ 7)), (1, .int p0)]) dX3_get_6 rfl (by decide) rfl ?_
  refine g_iload_n (pc := 7) dX3_get_7 rfl 0 rfl ?_
  refine g_if_lt (pc := 8) (tgt := 29) dX3_get_8 (by decide) ?_ ?_
  · exact g_sub [] rfl (gjb_X3_get_7_29 γ h)
  · refine g_iload_n (pc := 11) dX3_get_11 rfl 0 rfl ?_
    refine g_aload_n (pc := 12) dX3_get_12 rfl 1 rfl ?_
    refine gf_RX3_7_7 (pc := 13) dX3_get_13 ?_
    refine g_alen (pc := 16) (n := 0) (v := 553) 8 0 (gat_8 _ _) rfl rfl dX3_get_16 ?_
    refine g_icmp_ge (pc := 17) (tgt := 29) dX3_get_17 (by decide) ?_ ?_
    · exact g_sub [] rfl (gjb_X3_get_7_29 γ h)
    · refine g_aload_n (pc := 20) dX3_get_20 rfl 1 rfl ?_
      refine gf_RX3_7_7 (pc := 21) dX3_get_21 ?_
      refine g_iload_n (pc := 24) dX3_get_24 rfl 0 rfl ?_
      refine g_iald (pc := 25) 8 (gat_8 _ _) dX3_get_25 ?_
      refine g_goto (pc := 26) (tgt := 30) dX3_get_26 (by decide) ?_
      exact g_sub [] rfl (gjb_X3_get_7_30 γ (h.1 8 x1.toNatClampNeg) h)
def f_X5_add_5 (p0 : Int32) (p1 : Int32) (p2 : Int32) (h : Hst) : Option (Hst) :=
  gb (f_X5_get_5 p0 p1 h) fun x2 h1 =>
  gbv (f_X5_put_5 p0 p1 (x2 + p2) h1) fun h3 =>
  (some h3)
set_option maxRecDepth 20000 in
theorem ge_X5_add_5 (γ : Gv) (p0 : Int32) (p1 : Int32) (p2 : Int32) (h : Hst) : G γ RX5 cX5_add 4 none [] vV 1 0 0 (lv_args 0 [.ref (gad γ 5), .int p0, .int p1, .int p2]) [] h (f_X5_add_5 p0 p1 p2 h) := by
  show G γ RX5 cX5_add 4 none [] vV 1 0 0 [(0, .ref (gad γ 5)), (1, .int p0), (2, .int p1), (3, .int p2)] [] h (f_X5_add_5 p0 p1 p2 h)
  unfold f_X5_add_5
  refine g_aload_n (pc := 0) dX5_add_0 rfl 0 rfl ?_
  refine g_iload_n (pc := 1) dX5_add_1 rfl 1 rfl ?_
  refine g_iload_n (pc := 2) dX5_add_2 rfl 2 rfl ?_
  refine g_aload_n (pc := 3) dX5_add_3 rfl 0 rfl ?_
  refine g_iload_n (pc := 4) dX5_add_4 rfl 1 rfl ?_
  refine g_iload_n (pc := 5) dX5_add_5 rfl 2 rfl ?_
  refine g_cI (pc := 6) (st := [.int p1, .int p0, .ref (gad γ 5)]) (fun r hr => gRunV (As := [.int p0, .int p1]) 5 (ge_X5_get_5 γ p0 p1 h) hr wv_RX5_20 rfl (Nat.le_of_ble_eq_true rfl) (gat_5 _ _) rfl rfl (Nat.le_of_ble_eq_true rfl) (Nat.le_of_ble_eq_true rfl) dX5_add_6) (fun x2 h1 => ?_)
  refine g_iload_n (pc := 9) dX5_add_9 rfl 3 rfl ?_
  refine g_iadd (pc := 10) dX5_add_10 ?_
  refine g_cV (pc := 11) (st := []) (fun r hr => gRunV (As := [.int p0, .int p1, .int (x2 + p2)]) 5 (ge_X5_put_5 γ p0 p1 (x2 + p2) h1) hr wv_RX5_24 rfl (Nat.le_of_ble_eq_true rfl) (gat_5 _ _) rfl rfl (Nat.le_of_ble_eq_true rfl) (Nat.le_of_ble_eq_true rfl) dX5_add_11) (fun h3 => ?_)
  exact g_return (pc := 14) dX5_add_14 rfl rfl
def jb_X3_put_7_27   (h : Hst) : Option (Hst) :=
  (some h)
def f_X3_put_7 (p0 : Int32) (p1 : Int32) (h : Hst) : Option (Hst) :=
  gl (546 + p0) fun x1 =>
  (if x1 < 0 then
    (jb_X3_put_7_27 h)
  else
    (if 553 ≤ x1 then
      (jb_X3_put_7_27 h)
    else
      gck x1 553 (gl (hst h 8 x1.toNatClampNeg p1) fun h2 =>
      (jb_X3_put_7_27 h2))))
set_option maxRecDepth 20000 in
theorem gjb_X3_put_7_27 (γ : Gv)   (h : Hst) : G γ RX3 cX3_put 4 none [] vV 0 0 27 [] [] h (jb_X3_put_7_27 h) := by
  unfold jb_X3_put_7_27
  exact g_return (pc := 27) dX3_put_27 rfl rfl
set_option maxRecDepth 20000 in
theorem ge_X3_put_7 (γ : Gv) (p0 : Int32) (p1 : Int32) (h : Hst) : G γ RX3 cX3_put 4 none [] vV 0 0 0 (lv_args 0 [.ref (gad γ 7), .int p0, .int p1]) [] h (f_X3_put_7 p0 p1 h) := by
  show G γ RX3 cX3_put 4 none [] vV 0 0 0 [(0, .ref (gad γ 7)), (1, .int p0), (2, .int p1)] [] h (f_X3_put_7 p0 p1 h)
  unfold f_X3_put_7
  refine g_aload_n (pc := 0) dX3_put_0 rfl 0 rfl ?_
  refine gf_RX3_13_7 (pc := 1) dX3_put_1 ?_
  refine g_iload_n (pc := 4) dX3_put_4 rfl 1 rfl ?_
  refine g_iadd (pc := 5) dX3_put_5 ?_
  refine g_nmi (fun x1 => ?_)
  refine g_istore_n (pc := 6) (lv' := [(3, .int x1), (0, .ref (gad γ 7)), (1, .int p0), (2, .int p1)]) dX3_put_6 rfl (by decide) rfl ?_
  refine g_iload_n (pc := 7) dX3_put_7 rfl 0 rfl ?_
  refine g_if_lt (pc := 8) (tgt := 27) dX3_put_8 (by decide) ?_ ?_
  · exact g_sub [] rfl (gjb_X3_put_7_27 γ h)
  · refine g_iload_n (pc := 11) dX3_put_11 rfl 0 rfl ?_
    refine g_aload_n (pc := 12) dX3_put_12 rfl 1 rfl ?_
    refine gf_RX3_7_7 (pc := 13) dX3_put_13 ?_
    refine g_alen (pc := 16) (n := 0) (v := 553) 8 0 (gat_8 _ _) rfl rfl dX3_put_16 ?_
    refine g_icmp_ge (pc := 17) (tgt := 27) dX3_put_17 (by decide) ?_ ?_
    · exact g_sub [] rfl (gjb_X3_put_7_27 γ h)
    · refine g_aload_n (pc := 20) dX3_put_20 rfl 1 rfl ?_
      refine gf_RX3_7_7 (pc := 21) dX3_put_21 ?_
      refine g_iload_n (pc := 24) dX3_put_24 rfl 0 rfl ?_
      refine g_iload_n (pc := 25) dX3_put_25 rfl 3 rfl ?_
      refine g_iast (pc := 26) 8 (gat_8 _ _) (gset_8 _ _ _) dX3_put_26 ?_
      refine g_nmh (fun h2 => ?_)
      exact g_sub [] rfl (gjb_X3_put_7_27 γ h2)
def f_X3_add_7 (p0 : Int32) (p1 : Int32) (h : Hst) : Option (Hst) :=
  gb (f_X3_get_7 p0 h) fun x2 h1 =>
  gbv (f_X3_put_7 p0 (x2 + p1) h1) fun h3 =>
  (some h3)
set_option maxRecDepth 20000 in
theorem ge_X3_add_7 (γ : Gv) (p0 : Int32) (p1 : Int32) (h : Hst) : G γ RX3 cX3_add 3 none [] vV 1 0 0 (lv_args 0 [.ref (gad γ 7), .int p0, .int p1]) [] h (f_X3_add_7 p0 p1 h) := by
  show G γ RX3 cX3_add 3 none [] vV 1 0 0 [(0, .ref (gad γ 7)), (1, .int p0), (2, .int p1)] [] h (f_X3_add_7 p0 p1 h)
  unfold f_X3_add_7
  refine g_aload_n (pc := 0) dX3_add_0 rfl 0 rfl ?_
  refine g_iload_n (pc := 1) dX3_add_1 rfl 1 rfl ?_
  refine g_aload_n (pc := 2) dX3_add_2 rfl 0 rfl ?_
  refine g_iload_n (pc := 3) dX3_add_3 rfl 1 rfl ?_
  refine g_cI (pc := 4) (st := [.int p0, .ref (gad γ 7)]) (fun r hr => gRunV (As := [.int p0]) 7 (ge_X3_get_7 γ p0 h) hr wv_RX3_17 rfl (Nat.le_of_ble_eq_true rfl) (gat_7 _ _) rfl rfl (Nat.le_of_ble_eq_true rfl) (Nat.le_of_ble_eq_true rfl) dX3_add_4) (fun x2 h1 => ?_)
  refine g_iload_n (pc := 7) dX3_add_7 rfl 2 rfl ?_
  refine g_iadd (pc := 8) dX3_add_8 ?_
  refine g_cV (pc := 9) (st := []) (fun r hr => gRunV (As := [.int p0, .int (x2 + p1)]) 7 (ge_X3_put_7 γ p0 (x2 + p1) h1) hr wv_RX3_21 rfl (Nat.le_of_ble_eq_true rfl) (gat_7 _ _) rfl rfl (Nat.le_of_ble_eq_true rfl) (Nat.le_of_ble_eq_true rfl) dX3_add_9) (fun h3 => ?_)
  exact g_return (pc := 12) dX3_add_12 rfl rfl
def jb_X6_loseByCleaning_29   (h : Hst) : Option (Hst) :=
  (some h)
def f_X6_loseByCleaning (p0 : Int32) (p1 : Int32) (h : Hst) : Option (Hst) :=
  (if p1 ≤ 0 then
    (jb_X6_loseByCleaning_29 h)
  else
    gbv (f_X5_add_5 p0 4 p1 h) fun h1 =>
    gbv (f_X3_add_7 5 1 h1) fun h2 =>
    (jb_X6_loseByCleaning_29 h2))
set_option maxRecDepth 20000 in
theorem gjb_X6_loseByCleaning_29 (γ : Gv)   (h : Hst) : G γ RX6 cX6_loseByCleaning 3 none [] vV 2 0 29 [] [] h (jb_X6_loseByCleaning_29 h) := by
  unfold jb_X6_loseByCleaning_29
  exact g_return (pc := 29) dX6_loseByCleaning_29 rfl rfl
set_option maxRecDepth 20000 in
theorem ge_X6_loseByCleaning (γ : Gv) (p0 : Int32) (p1 : Int32) (h : Hst) : G γ RX6 cX6_loseByCleaning 3 none [] vV 2 0 0 (lv_args 0 [.ref (gad γ 0), .int p0, .int p1]) [] h (f_X6_loseByCleaning p0 p1 h) := by
  show G γ RX6 cX6_loseByCleaning 3 none [] vV 2 0 0 [(0, .ref (gad γ 0)), (1, .int p0), (2, .int p1)] [] h (f_X6_loseByCleaning p0 p1 h)
  unfold f_X6_loseByCleaning
  refine g_iload_n (pc := 0) dX6_loseByCleaning_0 rfl 2 rfl ?_
  refine g_if_le (pc := 1) (tgt := 29) dX6_loseByCleaning_1 (by decide) ?_ ?_
  · exact g_sub [] rfl (gjb_X6_loseByCleaning_29 γ h)
  · refine g_aload_n (pc := 4) dX6_loseByCleaning_4 rfl 0 rfl ?_
    refine gf_RX6_12_0 (pc := 5) dX6_loseByCleaning_5 ?_
    refine gf_RX6_113_1 (pc := 8) dX6_loseByCleaning_8 ?_
    refine g_iload_n (pc := 11) dX6_loseByCleaning_11 rfl 1 rfl ?_
    refine g_iconst (pc := 12) (v := 4) dX6_loseByCleaning_12 (by decide) ?_
    refine g_iload_n (pc := 13) dX6_loseByCleaning_13 rfl 2 rfl ?_
    refine g_cV (pc := 14) (st := []) (fun r hr => gRunV (As := [.int p0, .int 4, .int p1]) 5 (ge_X5_add_5 γ p0 4 p1 h) hr wv_RX6_185 rfl (Nat.le_of_ble_eq_true rfl) (gat_5 _ _) rfl rfl (Nat.le_of_ble_eq_true rfl) (Nat.le_of_ble_eq_true rfl) dX6_loseByCleaning_14) (fun h1 => ?_)
    refine g_aload_n (pc := 17) dX6_loseByCleaning_17 rfl 0 rfl ?_
    refine gf_RX6_12_0 (pc := 18) dX6_loseByCleaning_18 ?_
    refine gf_RX6_47_1 (pc := 21) dX6_loseByCleaning_21 ?_
    refine g_iconst (pc := 24) (v := 5) dX6_loseByCleaning_24 (by decide) ?_
    refine g_iconst (pc := 25) (v := 1) dX6_loseByCleaning_25 (by decide) ?_
    refine g_cV (pc := 26) (st := []) (fun r hr => gRunV (As := [.int 5, .int 1]) 7 (ge_X3_add_7 γ 5 1 h1) hr wv_RX6_67 rfl (Nat.le_of_ble_eq_true rfl) (gat_7 _ _) rfl rfl (Nat.le_of_ble_eq_true rfl) (Nat.le_of_ble_eq_true rfl) dX6_loseByCleaning_26) (fun h2 => ?_)
    exact g_sub [] rfl (gjb_X6_loseByCleaning_29 γ h2)
def f_X6_clean  (h : Hst) : Option (Int32 × Hst) :=
  gbv (f_X0_save h) fun h1 =>
  gb (f_X3_get_7 4 h1) fun x3 h2 =>
  gb (f_X3_get_7 3 h2) fun x5 h4 =>
  gbv (f_X6_loseByCleaning x5 x3 h4) fun h6 =>
  gbv (f_X3_put_7 4 0 h6) fun h7 =>
  (some (x3, h7))
set_option maxRecDepth 20000 in
theorem ge_X6_clean (γ : Gv)  (h : Hst) : G γ RX6 cX6_clean 2 (some .int) [] vI 3 0 0 (lv_args 0 [.ref (gad γ 0)]) [] h (f_X6_clean h) := by
  show G γ RX6 cX6_clean 2 (some .int) [] vI 3 0 0 [(0, .ref (gad γ 0))] [] h (f_X6_clean h)
  unfold f_X6_clean
  refine g_aload_n (pc := 0) dX6_clean_0 rfl 0 rfl ?_
  refine gf_RX6_12_0 (pc := 1) dX6_clean_1 ?_
  refine g_cV (pc := 4) (st := []) (fun r hr => gRunV (As := []) 1 (ge_X0_save γ h) hr wv_RX6_64 rfl (Nat.le_of_ble_eq_true rfl) (gat_1 _ _) rfl rfl (Nat.le_of_ble_eq_true rfl) (Nat.le_of_ble_eq_true rfl) dX6_clean_4) (fun h1 => ?_)
  refine g_aload_n (pc := 7) dX6_clean_7 rfl 0 rfl ?_
  refine gf_RX6_12_0 (pc := 8) dX6_clean_8 ?_
  refine gf_RX6_47_1 (pc := 11) dX6_clean_11 ?_
  refine g_iconst (pc := 14) (v := 4) dX6_clean_14 (by decide) ?_
  refine g_cI (pc := 15) (st := []) (fun r hr => gRunV (As := [.int 4]) 7 (ge_X3_get_7 γ 4 h1) hr wv_RX6_51 rfl (Nat.le_of_ble_eq_true rfl) (gat_7 _ _) rfl rfl (Nat.le_of_ble_eq_true rfl) (Nat.le_of_ble_eq_true rfl) dX6_clean_15) (fun x3 h2 => ?_)
  refine g_istore_n (pc := 18) (lv' := [(1, .int x3), (0, .ref (gad γ 0))]) dX6_clean_18 rfl (by decide) rfl ?_
  refine g_aload_n (pc := 19) dX6_clean_19 rfl 1 rfl ?_
  refine g_aload_n (pc := 20) dX6_clean_20 rfl 1 rfl ?_
  refine gf_RX6_12_0 (pc := 21) dX6_clean_21 ?_
  refine gf_RX6_47_1 (pc := 24) dX6_clean_24 ?_
  refine g_iconst (pc := 27) (v := 3) dX6_clean_27 (by decide) ?_
  refine g_cI (pc := 28) (st := [.ref (gad γ 0)]) (fun r hr => gRunV (As := [.int 3]) 7 (ge_X3_get_7 γ 3 h2) hr wv_RX6_51 rfl (Nat.le_of_ble_eq_true rfl) (gat_7 _ _) rfl rfl (Nat.le_of_ble_eq_true rfl) (Nat.le_of_ble_eq_true rfl) dX6_clean_28) (fun x5 h4 => ?_)
  refine g_iload_n (pc := 31) dX6_clean_31 rfl 0 rfl ?_
  refine g_cV (pc := 32) (st := []) (fun r hr => gRunV (As := [.int x5, .int x3]) 0 (ge_X6_loseByCleaning γ x5 x3 h4) hr wv_RX6_153 rfl (Nat.le_of_ble_eq_true rfl) (gat_0 _ _) rfl rfl (Nat.le_of_ble_eq_true rfl) (Nat.le_of_ble_eq_true rfl) dX6_clean_32) (fun h6 => ?_)
  refine g_aload_n (pc := 35) dX6_clean_35 rfl 1 rfl ?_
  refine gf_RX6_12_0 (pc := 36) dX6_clean_36 ?_
  refine gf_RX6_47_1 (pc := 39) dX6_clean_39 ?_
  refine g_iconst (pc := 42) (v := 4) dX6_clean_42 (by decide) ?_
  refine g_iconst (pc := 43) (v := 0) dX6_clean_43 (by decide) ?_
  refine g_cV (pc := 44) (st := []) (fun r hr => gRunV (As := [.int 4, .int 0]) 7 (ge_X3_put_7 γ 4 0 h6) hr wv_RX6_136 rfl (Nat.le_of_ble_eq_true rfl) (gat_7 _ _) rfl rfl (Nat.le_of_ble_eq_true rfl) (Nat.le_of_ble_eq_true rfl) dX6_clean_44) (fun h7 => ?_)
  refine g_iload_n (pc := 47) dX6_clean_47 rfl 0 rfl ?_
  exact g_ireturn (pc := 48) (ty := .int) dX6_clean_48 rfl rfl rfl
def jb_X6_isSetting_15  (s0 : Int32) (h : Hst) : Option (Int32 × Hst) :=
  (gzr s0 (some (s0, h)))
def jb_X6_isSetting_14   (h : Hst) : Option (Int32 × Hst) :=
  (jb_X6_isSetting_15 0 h)
def f_X6_isSetting (p0 : Int32) (h : Hst) : Option (Int32 × Hst) :=
  (if p0 < 0 then
    (jb_X6_isSetting_14 h)
  else
    (if 7 ≤ p0 then
      (jb_X6_isSetting_14 h)
    else
      (jb_X6_isSetting_15 1 h)))
set_option maxRecDepth 20000 in
theorem gjb_X6_isSetting_15 (γ : Gv)  (s0 : Int32) (h : Hst) : G γ RX6 cX6_isSetting 1 (some .boolean) [] vI 0 0 15 [] [.int s0] h (jb_X6_isSetting_15 s0 h) := by
  unfold jb_X6_isSetting_15
  exact g_zreturn (pc := 15) dX6_isSetting_15 rfl rfl
set_option maxRecDepth 20000 in
theorem gjb_X6_isSetting_14 (γ : Gv)   (h : Hst) : G γ RX6 cX6_isSetting 1 (some .boolean) [] vI 0 0 14 [] [] h (jb_X6_isSetting_14 h) := by
  unfold jb_X6_isSetting_14
  refine g_iconst (pc := 14) (v := 0) dX6_isSetting_14 (by decide) ?_
  exact gjb_X6_isSetting_15 γ 0 h
set_option maxRecDepth 20000 in
theorem ge_X6_isSetting (γ : Gv) (p0 : Int32) (h : Hst) : G γ RX6 cX6_isSetting 1 (some .boolean) [] vI 0 0 0 (lv_args 0 [.int p0]) [] h (f_X6_isSetting p0 h) := by
  show G γ RX6 cX6_isSetting 1 (some .boolean) [] vI 0 0 0 [(0, .int p0)] [] h (f_X6_isSetting p0 h)
  unfold f_X6_isSetting
  refine g_iload_n (pc := 0) dX6_isSetting_0 rfl 0 rfl ?_
  refine g_if_lt (pc := 1) (tgt := 14) dX6_isSetting_1 (by decide) ?_ ?_
  · exact g_sub [] rfl (gjb_X6_isSetting_14 γ h)
  · refine g_iload_n (pc := 4) dX6_isSetting_4 rfl 0 rfl ?_
    refine g_bipush (pc := 5) (v := 7) dX6_isSetting_5 (by decide) ?_
    refine g_icmp_ge (pc := 7) (tgt := 14) dX6_isSetting_7 (by decide) ?_ ?_
    · exact g_sub [] rfl (gjb_X6_isSetting_14 γ h)
    · refine g_iconst (pc := 10) (v := 1) dX6_isSetting_10 (by decide) ?_
      refine g_goto (pc := 11) (tgt := 15) dX6_isSetting_11 (by decide) ?_
      exact g_sub [] rfl (gjb_X6_isSetting_15 γ 1 h)
def jb_X6_isSettingValue_43  (s0 : Int32) (h : Hst) : Option (Int32 × Hst) :=
  (gzr s0 (some (s0, h)))
def jb_X6_isSettingValue_42   (h : Hst) : Option (Int32 × Hst) :=
  (jb_X6_isSettingValue_43 0 h)
def f_X6_isSettingValue (p0 : Int32) (p1 : Int32) (h : Hst) : Option (Int32 × Hst) :=
  (if p0 < 0 then
    (jb_X6_isSettingValue_42 h)
  else
    (if 7 ≤ p0 then
      (jb_X6_isSettingValue_42 h)
    else
      (if 7 ≤ p0 then
        (jb_X6_isSettingValue_42 h)
      else
        gck p0 7 ((if p1 < (([0, 500, 0, 0, 0, 0, 0] : List Int32).getD p0.toNatClampNeg 0) then
          (jb_X6_isSettingValue_42 h)
        else
          gck p0 7 ((if (([50, 1000, 1000, 50, 500, 2, 500] : List Int32).getD p0.toNatClampNeg 0) < p1 then
            (jb_X6_isSettingValue_42 h)
          else
            (jb_X6_isSettingValue_43 1 h))))))))
set_option maxRecDepth 20000 in
theorem gjb_X6_isSettingValue_43 (γ : Gv)  (s0 : Int32) (h : Hst) : G γ RX6 cX6_isSettingValue 2 (some .boolean) [] vI 0 0 43 [] [.int s0] h (jb_X6_isSettingValue_43 s0 h) := by
  unfold jb_X6_isSettingValue_43
  exact g_zreturn (pc := 43) dX6_isSettingValue_43 rfl rfl
set_option maxRecDepth 20000 in
theorem gjb_X6_isSettingValue_42 (γ : Gv)   (h : Hst) : G γ RX6 cX6_isSettingValue 2 (some .boolean) [] vI 0 0 42 [] [] h (jb_X6_isSettingValue_42 h) := by
  unfold jb_X6_isSettingValue_42
  refine g_iconst (pc := 42) (v := 0) dX6_isSettingValue_42 (by decide) ?_
  exact gjb_X6_isSettingValue_43 γ 0 h
set_option maxRecDepth 20000 in
theorem ge_X6_isSettingValue (γ : Gv) (p0 : Int32) (p1 : Int32) (h : Hst) : G γ RX6 cX6_isSettingValue 2 (some .boolean) [] vI 0 0 0 (lv_args 0 [.int p0, .int p1]) [] h (f_X6_isSettingValue p0 p1 h) := by
  show G γ RX6 cX6_isSettingValue 2 (some .boolean) [] vI 0 0 0 [(0, .int p0), (1, .int p1)] [] h (f_X6_isSettingValue p0 p1 h)
  unfold f_X6_isSettingValue
  refine g_iload_n (pc := 0) dX6_isSettingValue_0 rfl 0 rfl ?_
  refine g_if_lt (pc := 1) (tgt := 42) dX6_isSettingValue_1 (by decide) ?_ ?_
  · exact g_sub [] rfl (gjb_X6_isSettingValue_42 γ h)
  · refine g_iload_n (pc := 4) dX6_isSettingValue_4 rfl 0 rfl ?_
    refine g_gets_LEAST (pc := 5) wk_RX6_371 dX6_isSettingValue_5 ?_
    refine g_tlen_LEAST (pc := 8) dX6_isSettingValue_8 ?_
    refine g_icmp_ge (pc := 9) (tgt := 42) dX6_isSettingValue_9 (by decide) ?_ ?_
    · exact g_sub [] rfl (gjb_X6_isSettingValue_42 γ h)
    · refine g_iload_n (pc := 12) dX6_isSettingValue_12 rfl 0 rfl ?_
      refine g_gets_MOST (pc := 13) wk_RX6_374 dX6_isSettingValue_13 ?_
      refine g_tlen_MOST (pc := 16) dX6_isSettingValue_16 ?_
      refine g_icmp_ge (pc := 17) (tgt := 42) dX6_isSettingValue_17 (by decide) ?_ ?_
      · exact g_sub [] rfl (gjb_X6_isSettingValue_42 γ h)
      · refine g_iload_n (pc := 20) dX6_isSettingValue_20 rfl 1 rfl ?_
        refine g_gets_LEAST (pc := 21) wk_RX6_371 dX6_isSettingValue_21 ?_
        refine g_iload_n (pc := 24) dX6_isSettingValue_24 rfl 0 rfl ?_
        refine g_ti_LEAST (pc := 25) dX6_isSettingValue_25 ?_
        refine g_icmp_lt (pc := 26) (tgt := 42) dX6_isSettingValue_26 (by decide) ?_ ?_
        · exact g_sub [] rfl (gjb_X6_isSettingValue_42 γ h)
        · refine g_iload_n (pc := 29) dX6_isSettingValue_29 rfl 1 rfl ?_
          refine g_gets_MOST (pc := 30) wk_RX6_374 dX6_isSettingValue_30 ?_
          refine g_iload_n (pc := 33) dX6_isSettingValue_33 rfl 0 rfl ?_
          refine g_ti_MOST (pc := 34) dX6_isSettingValue_34 ?_
          refine g_icmp_gt (pc := 35) (tgt := 42) dX6_isSettingValue_35 (by decide) ?_ ?_
          · exact g_sub [] rfl (gjb_X6_isSettingValue_42 γ h)
          · refine g_iconst (pc := 38) (v := 1) dX6_isSettingValue_38 (by decide) ?_
            refine g_goto (pc := 39) (tgt := 43) dX6_isSettingValue_39 (by decide) ?_
            exact g_sub [] rfl (gjb_X6_isSettingValue_43 γ 1 h)
def jb_X3_get_6_30  (s0 : Int32) (h : Hst) : Option (Int32 × Hst) :=
  (some (s0, h))
def jb_X3_get_6_29   (h : Hst) : Option (Int32 × Hst) :=
  (jb_X3_get_6_30 0 h)
def f_X3_get_6 (p0 : Int32) (h : Hst) : Option (Int32 × Hst) :=
  gl (539 + p0) fun x1 =>
  (if x1 < 0 then
    (jb_X3_get_6_29 h)
  else
    (if 553 ≤ x1 then
      (jb_X3_get_6_29 h)
    else
      gck x1 553 ((jb_X3_get_6_30 (h.1 8 x1.toNatClampNeg) h))))
set_option maxRecDepth 20000 in
theorem gjb_X3_get_6_30 (γ : Gv)  (s0 : Int32) (h : Hst) : G γ RX3 cX3_get 3 (some .int) [] vI 0 0 30 [] [.int s0] h (jb_X3_get_6_30 s0 h) := by
  unfold jb_X3_get_6_30
  exact g_ireturn (pc := 30) (ty := .int) dX3_get_30 rfl rfl rfl
set_option maxRecDepth 20000 in
theorem gjb_X3_get_6_29 (γ : Gv)   (h : Hst) : G γ RX3 cX3_get 3 (some .int) [] vI 0 0 29 [] [] h (jb_X3_get_6_29 h) := by
  unfold jb_X3_get_6_29
  refine g_iconst (pc := 29) (v := 0) dX3_get_29 (by decide) ?_
  exact gjb_X3_get_6_30 γ 0 h
set_option maxRecDepth 20000 in
theorem ge_X3_get_6 (γ : Gv) (p0 : Int32) (h : Hst) : G γ RX3 cX3_get 3 (some .int) [] vI 0 0 0 (lv_args 0 [.ref (gad γ 6), .int p0]) [] h (f_X3_get_6 p0 h) := by
  show G γ RX3 cX3_get 3 (some .int) [] vI 0 0 0 [(0, .ref (gad γ 6)), (1, .int p0)] [] h (f_X3_get_6 p0 h)
  unfold f_X3_get_6
  refine g_aload_n (pc := 0) dX3_get_0 rfl 0 rfl ?_
  refine gf_RX3_13_6 (pc := 1) dX3_get_1 ?_
  refine g_iload_n (pc := 4) dX3_get_4 rfl 1 rfl ?_
  refine g_iadd (pc := 5) dX3_get_5 ?_
  refine g_nmi (fun x1 => ?_)
  refine g_istore_n (pc := 6) (lv' := [(2, .int x1), (0, .ref (gad γ 6)), (1, .int p0)]) dX3_get_6 rfl (by decide) rfl ?_
  refine g_iload_n (pc := 7) dX3_get_7 rfl 0 rfl ?_
  refine g_if_lt (pc := 8) (tgt := 29) dX3_get_8 (by decide) ?_ ?_
  · exact g_sub [] rfl (gjb_X3_get_6_29 γ h)
  · refine g_iload_n (pc := 11) dX3_get_11 rfl 0 rfl ?_
    refine g_aload_n (pc := 12) dX3_get_12 rfl 1 rfl ?_
    refine gf_RX3_7_6 (pc := 13) dX3_get_13 ?_
    refine g_alen (pc := 16) (n := 0) (v := 553) 8 0 (gat_8 _ _) rfl rfl dX3_get_16 ?_
    refine g_icmp_ge (pc := 17) (tgt := 29) dX3_get_17 (by decide) ?_ ?_
    · exact g_sub [] rfl (gjb_X3_get_6_29 γ h)
    · refine g_aload_n (pc := 20) dX3_get_20 rfl 1 rfl ?_
      refine gf_RX3_7_6 (pc := 21) dX3_get_21 ?_
      refine g_iload_n (pc := 24) dX3_get_24 rfl 0 rfl ?_
      refine g_iald (pc := 25) 8 (gat_8 _ _) dX3_get_25 ?_
      refine g_goto (pc := 26) (tgt := 30) dX3_get_26 (by decide) ?_
      exact g_sub [] rfl (gjb_X3_get_6_30 γ (h.1 8 x1.toNatClampNeg) h)
def jb_X3_put_6_27   (h : Hst) : Option (Hst) :=
  (some h)
def f_X3_put_6 (p0 : Int32) (p1 : Int32) (h : Hst) : Option (Hst) :=
  gl (539 + p0) fun x1 =>
  (if x1 < 0 then
    (jb_X3_put_6_27 h)
  else
    (if 553 ≤ x1 then
      (jb_X3_put_6_27 h)
    else
      gck x1 553 (gl (hst h 8 x1.toNatClampNeg p1) fun h2 =>
      (jb_X3_put_6_27 h2))))
set_option maxRecDepth 20000 in
theorem gjb_X3_put_6_27 (γ : Gv)   (h : Hst) : G γ RX3 cX3_put 4 none [] vV 0 0 27 [] [] h (jb_X3_put_6_27 h) := by
  unfold jb_X3_put_6_27
  exact g_return (pc := 27) dX3_put_27 rfl rfl
set_option maxRecDepth 20000 in
theorem ge_X3_put_6 (γ : Gv) (p0 : Int32) (p1 : Int32) (h : Hst) : G γ RX3 cX3_put 4 none [] vV 0 0 0 (lv_args 0 [.ref (gad γ 6), .int p0, .int p1]) [] h (f_X3_put_6 p0 p1 h) := by
  show G γ RX3 cX3_put 4 none [] vV 0 0 0 [(0, .ref (gad γ 6)), (1, .int p0), (2, .int p1)] [] h (f_X3_put_6 p0 p1 h)
  unfold f_X3_put_6
  refine g_aload_n (pc := 0) dX3_put_0 rfl 0 rfl ?_
  refine gf_RX3_13_6 (pc := 1) dX3_put_1 ?_
  refine g_iload_n (pc := 4) dX3_put_4 rfl 1 rfl ?_
  refine g_iadd (pc := 5) dX3_put_5 ?_
  refine g_nmi (fun x1 => ?_)
  refine g_istore_n (pc := 6) (lv' := [(3, .int x1), (0, .ref (gad γ 6)), (1, .int p0), (2, .int p1)]) dX3_put_6 rfl (by decide) rfl ?_
  refine g_iload_n (pc := 7) dX3_put_7 rfl 0 rfl ?_
  refine g_if_lt (pc := 8) (tgt := 27) dX3_put_8 (by decide) ?_ ?_
  · exact g_sub [] rfl (gjb_X3_put_6_27 γ h)
  · refine g_iload_n (pc := 11) dX3_put_11 rfl 0 rfl ?_
    refine g_aload_n (pc := 12) dX3_put_12 rfl 1 rfl ?_
    refine gf_RX3_7_6 (pc := 13) dX3_put_13 ?_
    refine g_alen (pc := 16) (n := 0) (v := 553) 8 0 (gat_8 _ _) rfl rfl dX3_put_16 ?_
    refine g_icmp_ge (pc := 17) (tgt := 27) dX3_put_17 (by decide) ?_ ?_
    · exact g_sub [] rfl (gjb_X3_put_6_27 γ h)
    · refine g_aload_n (pc := 20) dX3_put_20 rfl 1 rfl ?_
      refine gf_RX3_7_6 (pc := 21) dX3_put_21 ?_
      refine g_iload_n (pc := 24) dX3_put_24 rfl 0 rfl ?_
      refine g_iload_n (pc := 25) dX3_put_25 rfl 3 rfl ?_
      refine g_iast (pc := 26) 8 (gat_8 _ _) (gset_8 _ _ _) dX3_put_26 ?_
      refine g_nmh (fun h2 => ?_)
      exact g_sub [] rfl (gjb_X3_put_6_27 γ h2)
def f_X6_set (p0 : Int32) (p1 : Int32) (h : Hst) : Option (Int32 × Hst) :=
  gb (f_X6_isSetting p0 h) fun x2 h1 =>
  (if x2 = 0 then
    none
  else
    gb (f_X6_isSettingValue p0 p1 h1) fun x4 h3 =>
    (if x4 = 0 then
      none
    else
      gb (f_X3_get_6 p0 h3) fun x6 h5 =>
      gbv (f_X0_save h5) fun h7 =>
      gbv (f_X3_put_6 p0 p1 h7) fun h8 =>
      (some (x6, h8))))
set_option maxRecDepth 20000 in
theorem ge_X6_set (γ : Gv) (p0 : Int32) (p1 : Int32) (h : Hst) : G γ RX6 cX6_set 4 (some .int) [] vI 2 0 0 (lv_args 0 [.ref (gad γ 0), .int p0, .int p1]) [] h (f_X6_set p0 p1 h) := by
  show G γ RX6 cX6_set 4 (some .int) [] vI 2 0 0 [(0, .ref (gad γ 0)), (1, .int p0), (2, .int p1)] [] h (f_X6_set p0 p1 h)
  unfold f_X6_set
  refine g_iload_n (pc := 0) dX6_set_0 rfl 1 rfl ?_
  refine g_cI (pc := 1) (st := []) (fun r hr => gRunS (As := [.int p0]) (ge_X6_isSetting γ p0 h) hr wv_RX6_119 rfl (Nat.le_of_ble_eq_true rfl) rfl (Nat.le_of_ble_eq_true rfl) (Nat.le_of_ble_eq_true rfl) dX6_set_1) (fun x2 h1 => ?_)
  refine g_if_ne (pc := 4) (tgt := 17) dX6_set_4 (by decide) ?_ ?_
  · refine g_iload_n (pc := 17) dX6_set_17 rfl 1 rfl ?_
    refine g_iload_n (pc := 18) dX6_set_18 rfl 2 rfl ?_
    refine g_cI (pc := 19) (st := []) (fun r hr => gRunS (As := [.int p0, .int p1]) (ge_X6_isSettingValue γ p0 p1 h1) hr wv_RX6_127 rfl (Nat.le_of_ble_eq_true rfl) rfl (Nat.le_of_ble_eq_true rfl) (Nat.le_of_ble_eq_true rfl) dX6_set_19) (fun x4 h3 => ?_)
    refine g_if_ne (pc := 22) (tgt := 35) dX6_set_22 (by decide) ?_ ?_
    · refine g_aload_n (pc := 35) dX6_set_35 rfl 0 rfl ?_
      refine gf_RX6_12_0 (pc := 36) dX6_set_36 ?_
      refine gf_RX6_133_1 (pc := 39) dX6_set_39 ?_
      refine g_iload_n (pc := 42) dX6_set_42 rfl 1 rfl ?_
      refine g_cI (pc := 43) (st := []) (fun r hr => gRunV (As := [.int p0]) 6 (ge_X3_get_6 γ p0 h3) hr wv_RX6_51 rfl (Nat.le_of_ble_eq_true rfl) (gat_6 _ _) rfl rfl (Nat.le_of_ble_eq_true rfl) (Nat.le_of_ble_eq_true rfl) dX6_set_43) (fun x6 h5 => ?_)
      refine g_istore_n (pc := 46) (lv' := [(3, .int x6), (0, .ref (gad γ 0)), (1, .int p0), (2, .int p1)]) dX6_set_46 rfl (by decide) rfl ?_
      refine g_aload_n (pc := 47) dX6_set_47 rfl 1 rfl ?_
      refine gf_RX6_12_0 (pc := 48) dX6_set_48 ?_
      refine g_cV (pc := 51) (st := []) (fun r hr => gRunV (As := []) 1 (ge_X0_save γ h5) hr wv_RX6_64 rfl (Nat.le_of_ble_eq_true rfl) (gat_1 _ _) rfl rfl (Nat.le_of_ble_eq_true rfl) (Nat.le_of_ble_eq_true rfl) dX6_set_51) (fun h7 => ?_)
      refine g_aload_n (pc := 54) dX6_set_54 rfl 1 rfl ?_
      refine gf_RX6_12_0 (pc := 55) dX6_set_55 ?_
      refine gf_RX6_133_1 (pc := 58) dX6_set_58 ?_
      refine g_iload_n (pc := 61) dX6_set_61 rfl 2 rfl ?_
      refine g_iload_n (pc := 62) dX6_set_62 rfl 3 rfl ?_
      refine g_cV (pc := 63) (st := []) (fun r hr => gRunV (As := [.int p0, .int p1]) 6 (ge_X3_put_6 γ p0 p1 h7) hr wv_RX6_136 rfl (Nat.le_of_ble_eq_true rfl) (gat_6 _ _) rfl rfl (Nat.le_of_ble_eq_true rfl) (Nat.le_of_ble_eq_true rfl) dX6_set_63) (fun h8 => ?_)
      refine g_iload_n (pc := 66) dX6_set_66 rfl 0 rfl ?_
      exact g_ireturn (pc := 67) (ty := .int) dX6_set_67 rfl rfl rfl
    · exact g_none
  · exact g_none
def jb_X5_get_4_37  (s0 : Int32) (h : Hst) : Option (Int32 × Hst) :=
  (some (s0, h))
def jb_X5_get_4_36   (h : Hst) : Option (Int32 × Hst) :=
  (jb_X5_get_4_37 0 h)
def f_X5_get_4 (p0 : Int32) (p1 : Int32) (h : Hst) : Option (Int32 × Hst) :=
  gl ((472 + (p0 * 7)) + p1) fun x1 =>
  (if x1 < 0 then
    (jb_X5_get_4_36 h)
  else
    (if 553 ≤ x1 then
      (jb_X5_get_4_36 h)
    else
      gck x1 553 ((jb_X5_get_4_37 (h.1 8 x1.toNatClampNeg) h))))
set_option maxRecDepth 20000 in
theorem gjb_X5_get_4_37 (γ : Gv)  (s0 : Int32) (h : Hst) : G γ RX5 cX5_get 4 (some .int) [] vI 0 0 37 [] [.int s0] h (jb_X5_get_4_37 s0 h) := by
  unfold jb_X5_get_4_37
  exact g_ireturn (pc := 37) (ty := .int) dX5_get_37 rfl rfl rfl
set_option maxRecDepth 20000 in
theorem gjb_X5_get_4_36 (γ : Gv)   (h : Hst) : G γ RX5 cX5_get 4 (some .int) [] vI 0 0 36 [] [] h (jb_X5_get_4_36 h) := by
  unfold jb_X5_get_4_36
  refine g_iconst (pc := 36) (v := 0) dX5_get_36 (by decide) ?_
  exact gjb_X5_get_4_37 γ 0 h
set_option maxRecDepth 20000 in
theorem ge_X5_get_4 (γ : Gv) (p0 : Int32) (p1 : Int32) (h : Hst) : G γ RX5 cX5_get 4 (some .int) [] vI 0 0 0 (lv_args 0 [.ref (gad γ 4), .int p0, .int p1]) [] h (f_X5_get_4 p0 p1 h) := by
  show G γ RX5 cX5_get 4 (some .int) [] vI 0 0 0 [(0, .ref (gad γ 4)), (1, .int p0), (2, .int p1)] [] h (f_X5_get_4 p0 p1 h)
  unfold f_X5_get_4
  refine g_aload_n (pc := 0) dX5_get_0 rfl 0 rfl ?_
  refine gf_RX5_13_4 (pc := 1) dX5_get_1 ?_
  refine g_iload_n (pc := 4) dX5_get_4 rfl 1 rfl ?_
  refine g_aload_n (pc := 5) dX5_get_5 rfl 0 rfl ?_
  refine gf_RX5_17_4 (pc := 6) dX5_get_6 ?_
  refine g_imul (pc := 9) dX5_get_9 ?_
  refine g_iadd (pc := 10) dX5_get_10 ?_
  refine g_iload_n (pc := 11) dX5_get_11 rfl 2 rfl ?_
  refine g_iadd (pc := 12) dX5_get_12 ?_
  refine g_nmi (fun x1 => ?_)
  refine g_istore_n (pc := 13) (lv' := [(3, .int x1), (0, .ref (gad γ 4)), (1, .int p0), (2, .int p1)]) dX5_get_13 rfl (by decide) rfl ?_
  refine g_iload_n (pc := 14) dX5_get_14 rfl 0 rfl ?_
  refine g_if_lt (pc := 15) (tgt := 36) dX5_get_15 (by decide) ?_ ?_
  · exact g_sub [] rfl (gjb_X5_get_4_36 γ h)
  · refine g_iload_n (pc := 18) dX5_get_18 rfl 0 rfl ?_
    refine g_aload_n (pc := 19) dX5_get_19 rfl 1 rfl ?_
    refine gf_RX5_7_4 (pc := 20) dX5_get_20 ?_
    refine g_alen (pc := 23) (n := 0) (v := 553) 8 0 (gat_8 _ _) rfl rfl dX5_get_23 ?_
    refine g_icmp_ge (pc := 24) (tgt := 36) dX5_get_24 (by decide) ?_ ?_
    · exact g_sub [] rfl (gjb_X5_get_4_36 γ h)
    · refine g_aload_n (pc := 27) dX5_get_27 rfl 1 rfl ?_
      refine gf_RX5_7_4 (pc := 28) dX5_get_28 ?_
      refine g_iload_n (pc := 31) dX5_get_31 rfl 0 rfl ?_
      refine g_iald (pc := 32) 8 (gat_8 _ _) dX5_get_32 ?_
      refine g_goto (pc := 33) (tgt := 37) dX5_get_33 (by decide) ?_
      exact g_sub [] rfl (gjb_X5_get_4_37 γ (h.1 8 x1.toNatClampNeg) h)
def lp_X1_oilAfter_5 : Nat → Int32 → Int32 → Int32 → Hst → Option (Int32 × Hst)
  | 0, _, _, _, _ => none
  | n + 1, a1, a3, a4, h =>
    (if a1 ≤ a4 then
      (some (a3, h))
    else
      gb (f_X3_get_6 3 h) fun x2 h1 =>
      gdz 1000 (gl (a3 - ((a3 * x2) / 1000)) fun x3 =>
      ((lp_X1_oilAfter_5 n) a1 x3 (a4 + 1) h1)))
def f_X1_oilAfter (p0 : Int32) (p1 : Int32) (h : Hst) : Option (Int32 × Hst) :=
  (lp_X1_oilAfter_5 FU p0 p1 0 h)
set_option maxRecDepth 20000 in
theorem glp_X1_oilAfter_5 (γ : Gv)  : ∀ (n : Nat) (a1 : Int32) (a3 : Int32) (a4 : Int32) (h : Hst), G γ RX1 cX1_oilAfter 5 (some .int) [] vI 1 0 5 [(0, .ref (gad γ 10)), (1, .int a1), (3, .int a3), (4, .int a4)] [] h (lp_X1_oilAfter_5 n a1 a3 a4 h) := by
  intro n
  induction n with
  | zero => intro a1 a3 a4 h; exact g_none
  | succ n ih =>
    intro a1 a3 a4 h
    rw [lp_X1_oilAfter_5]
    refine g_iload (pc := 5) dX1_oilAfter_5 3 rfl ?_
    refine g_iload_n (pc := 7) dX1_oilAfter_7 rfl 1 rfl ?_
    refine g_icmp_ge (pc := 8) (tgt := 37) dX1_oilAfter_8 (by decide) ?_ ?_
    · refine g_iload_n (pc := 37) dX1_oilAfter_37 rfl 2 rfl ?_
      exact g_ireturn (pc := 38) (ty := .int) dX1_oilAfter_38 rfl rfl rfl
    · refine g_iload_n (pc := 11) dX1_oilAfter_11 rfl 2 rfl ?_
      refine g_iload_n (pc := 12) dX1_oilAfter_12 rfl 2 rfl ?_
      refine g_aload_n (pc := 13) dX1_oilAfter_13 rfl 0 rfl ?_
      refine gf_RX1_9_10 (pc := 14) dX1_oilAfter_14 ?_
      refine gf_RX1_60_1 (pc := 17) dX1_oilAfter_17 ?_
      refine g_iconst (pc := 20) (v := 3) dX1_oilAfter_20 (by decide) ?_
      refine g_cI (pc := 21) (st := [.int a3, .int a3]) (fun r hr => gRunV (As := [.int 3]) 6 (ge_X3_get_6 γ 3 h) hr wv_RX1_64 rfl (Nat.le_of_ble_eq_true rfl) (gat_6 _ _) rfl rfl (Nat.le_of_ble_eq_true rfl) (Nat.le_of_ble_eq_true rfl) dX1_oilAfter_21) (fun x2 h1 => ?_)
      refine g_imul (pc := 24) dX1_oilAfter_24 ?_
      refine g_sipush (pc := 25) (v := 1000) dX1_oilAfter_25 (by decide) ?_
      refine g_idiv (pc := 28) dX1_oilAfter_28 ?_
      refine g_isub (pc := 29) dX1_oilAfter_29 ?_
      refine g_nmi (fun x3 => ?_)
      refine g_istore_n (pc := 30) (lv' := [(3, .int x3), (0, .ref (gad γ 10)), (1, .int a1), (4, .int a4)]) dX1_oilAfter_30 rfl (by decide) rfl ?_
      refine g_iinc (pc := 31) (q := 3) (v := a4 + 1) (lv' := [(4, .int (a4 + 1)), (3, .int x3), (0, .ref (gad γ 10)), (1, .int a1)]) dX1_oilAfter_31 rfl rfl (by decide) rfl ?_
      refine g_goto (pc := 34) (tgt := 5) dX1_oilAfter_34 (by decide) ?_
      exact g_sub [2, 3, 1, 0] rfl (ih a1 x3 (a4 + 1) h1)
set_option maxRecDepth 20000 in
theorem ge_X1_oilAfter (γ : Gv) (p0 : Int32) (p1 : Int32) (h : Hst) : G γ RX1 cX1_oilAfter 5 (some .int) [] vI 1 0 0 (lv_args 0 [.ref (gad γ 10), .int p0, .int p1]) [] h (f_X1_oilAfter p0 p1 h) := by
  show G γ RX1 cX1_oilAfter 5 (some .int) [] vI 1 0 0 [(0, .ref (gad γ 10)), (1, .int p0), (2, .int p1)] [] h (f_X1_oilAfter p0 p1 h)
  unfold f_X1_oilAfter
  refine g_iload_n (pc := 0) dX1_oilAfter_0 rfl 2 rfl ?_
  refine g_istore_n (pc := 1) (lv' := [(3, .int p1), (0, .ref (gad γ 10)), (1, .int p0), (2, .int p1)]) dX1_oilAfter_1 rfl (by decide) rfl ?_
  refine g_iconst (pc := 2) (v := 0) dX1_oilAfter_2 (by decide) ?_
  refine g_istore (pc := 3) (lv' := [(4, .int 0), (3, .int p1), (0, .ref (gad γ 10)), (1, .int p0), (2, .int p1)]) dX1_oilAfter_3 (by decide) rfl ?_
  exact g_sub [2, 3, 1, 0] rfl (glp_X1_oilAfter_5 γ FU p0 p1 0 h)
def jb_X5_put_4_38   (h : Hst) : Option (Hst) :=
  (some h)
def f_X5_put_4 (p0 : Int32) (p1 : Int32) (p2 : Int32) (h : Hst) : Option (Hst) :=
  gl ((472 + (p0 * 7)) + p1) fun x1 =>
  (if x1 < 0 then
    (jb_X5_put_4_38 h)
  else
    (if 553 ≤ x1 then
      (jb_X5_put_4_38 h)
    else
      gck x1 553 (gl (hst h 8 x1.toNatClampNeg p2) fun h2 =>
      (jb_X5_put_4_38 h2))))
set_option maxRecDepth 20000 in
theorem gjb_X5_put_4_38 (γ : Gv)   (h : Hst) : G γ RX5 cX5_put 5 none [] vV 0 0 38 [] [] h (jb_X5_put_4_38 h) := by
  unfold jb_X5_put_4_38
  exact g_return (pc := 38) dX5_put_38 rfl rfl
set_option maxRecDepth 20000 in
theorem ge_X5_put_4 (γ : Gv) (p0 : Int32) (p1 : Int32) (p2 : Int32) (h : Hst) : G γ RX5 cX5_put 5 none [] vV 0 0 0 (lv_args 0 [.ref (gad γ 4), .int p0, .int p1, .int p2]) [] h (f_X5_put_4 p0 p1 p2 h) := by
  show G γ RX5 cX5_put 5 none [] vV 0 0 0 [(0, .ref (gad γ 4)), (1, .int p0), (2, .int p1), (3, .int p2)] [] h (f_X5_put_4 p0 p1 p2 h)
  unfold f_X5_put_4
  refine g_aload_n (pc := 0) dX5_put_0 rfl 0 rfl ?_
  refine gf_RX5_13_4 (pc := 1) dX5_put_1 ?_
  refine g_iload_n (pc := 4) dX5_put_4 rfl 1 rfl ?_
  refine g_aload_n (pc := 5) dX5_put_5 rfl 0 rfl ?_
  refine gf_RX5_17_4 (pc := 6) dX5_put_6 ?_
  refine g_imul (pc := 9) dX5_put_9 ?_
  refine g_iadd (pc := 10) dX5_put_10 ?_
  refine g_iload_n (pc := 11) dX5_put_11 rfl 2 rfl ?_
  refine g_iadd (pc := 12) dX5_put_12 ?_
  refine g_nmi (fun x1 => ?_)
  refine g_istore (pc := 13) (lv' := [(4, .int x1), (0, .ref (gad γ 4)), (1, .int p0), (2, .int p1), (3, .int p2)]) dX5_put_13 (by decide) rfl ?_
  refine g_iload (pc := 15) dX5_put_15 0 rfl ?_
  refine g_if_lt (pc := 17) (tgt := 38) dX5_put_17 (by decide) ?_ ?_
  · exact g_sub [] rfl (gjb_X5_put_4_38 γ h)
  · refine g_iload (pc := 20) dX5_put_20 0 rfl ?_
    refine g_aload_n (pc := 22) dX5_put_22 rfl 1 rfl ?_
    refine gf_RX5_7_4 (pc := 23) dX5_put_23 ?_
    refine g_alen (pc := 26) (n := 0) (v := 553) 8 0 (gat_8 _ _) rfl rfl dX5_put_26 ?_
    refine g_icmp_ge (pc := 27) (tgt := 38) dX5_put_27 (by decide) ?_ ?_
    · exact g_sub [] rfl (gjb_X5_put_4_38 γ h)
    · refine g_aload_n (pc := 30) dX5_put_30 rfl 1 rfl ?_
      refine gf_RX5_7_4 (pc := 31) dX5_put_31 ?_
      refine g_iload (pc := 34) dX5_put_34 0 rfl ?_
      refine g_iload_n (pc := 36) dX5_put_36 rfl 4 rfl ?_
      refine g_iast (pc := 37) 8 (gat_8 _ _) (gset_8 _ _ _) dX5_put_37 ?_
      refine g_nmh (fun h2 => ?_)
      exact g_sub [] rfl (gjb_X5_put_4_38 γ h2)
def f_X1_settle (p0 : Int32) (p1 : Int32) (p2 : Int32) (h : Hst) : Option (Int32 × Hst) :=
  gb (f_X5_get_4 p0 (2 + p1) h) fun x2 h1 =>
  gb (f_X1_oilAfter p2 x2 h1) fun x4 h3 =>
  gbv (f_X5_put_4 p0 (2 + p1) x4 h3) fun h5 =>
  gbv (f_X5_add_5 p1 3 (x2 - x4) h5) fun h6 =>
  (some (x2 - x4, h6))
set_option maxRecDepth 20000 in
theorem ge_X1_settle (γ : Gv) (p0 : Int32) (p1 : Int32) (p2 : Int32) (h : Hst) : G γ RX1 cX1_settle 6 (some .int) [] vI 2 0 0 (lv_args 0 [.ref (gad γ 10), .int p0, .int p1, .int p2]) [] h (f_X1_settle p0 p1 p2 h) := by
  show G γ RX1 cX1_settle 6 (some .int) [] vI 2 0 0 [(0, .ref (gad γ 10)), (1, .int p0), (2, .int p1), (3, .int p2)] [] h (f_X1_settle p0 p1 p2 h)
  unfold f_X1_settle
  refine g_aload_n (pc := 0) dX1_settle_0 rfl 0 rfl ?_
  refine gf_RX1_9_10 (pc := 1) dX1_settle_1 ?_
  refine gf_RX1_22_1 (pc := 4) dX1_settle_4 ?_
  refine g_iload_n (pc := 7) dX1_settle_7 rfl 1 rfl ?_
  refine g_iconst (pc := 8) (v := 2) dX1_settle_8 (by decide) ?_
  refine g_iload_n (pc := 9) dX1_settle_9 rfl 2 rfl ?_
  refine g_iadd (pc := 10) dX1_settle_10 ?_
  refine g_cI (pc := 11) (st := []) (fun r hr => gRunV (As := [.int p0, .int (2 + p1)]) 4 (ge_X5_get_4 γ p0 (2 + p1) h) hr wv_RX1_28 rfl (Nat.le_of_ble_eq_true rfl) (gat_4 _ _) rfl rfl (Nat.le_of_ble_eq_true rfl) (Nat.le_of_ble_eq_true rfl) dX1_settle_11) (fun x2 h1 => ?_)
  refine g_istore (pc := 14) (lv' := [(4, .int x2), (0, .ref (gad γ 10)), (1, .int p0), (2, .int p1), (3, .int p2)]) dX1_settle_14 (by decide) rfl ?_
  refine g_aload_n (pc := 16) dX1_settle_16 rfl 1 rfl ?_
  refine g_iload_n (pc := 17) dX1_settle_17 rfl 4 rfl ?_
  refine g_iload (pc := 18) dX1_settle_18 0 rfl ?_
  refine g_cI (pc := 20) (st := []) (fun r hr => gRunV (As := [.int p2, .int x2]) 10 (ge_X1_oilAfter γ p2 x2 h1) hr wv_RX1_68 rfl (Nat.le_of_ble_eq_true rfl) (gat_10 _ _) rfl rfl (Nat.le_of_ble_eq_true rfl) (Nat.le_of_ble_eq_true rfl) dX1_settle_20) (fun x4 h3 => ?_)
  refine g_istore (pc := 23) (lv' := [(5, .int x4), (4, .int x2), (0, .ref (gad γ 10)), (1, .int p0), (2, .int p1), (3, .int p2)]) dX1_settle_23 (by decide) rfl ?_
  refine g_aload_n (pc := 25) dX1_settle_25 rfl 2 rfl ?_
  refine gf_RX1_9_10 (pc := 26) dX1_settle_26 ?_
  refine gf_RX1_22_1 (pc := 29) dX1_settle_29 ?_
  refine g_iload_n (pc := 32) dX1_settle_32 rfl 3 rfl ?_
  refine g_iconst (pc := 33) (v := 2) dX1_settle_33 (by decide) ?_
  refine g_iload_n (pc := 34) dX1_settle_34 rfl 4 rfl ?_
  refine g_iadd (pc := 35) dX1_settle_35 ?_
  refine g_iload (pc := 36) dX1_settle_36 0 rfl ?_
  refine g_cV (pc := 38) (st := []) (fun r hr => gRunV (As := [.int p0, .int (2 + p1), .int x4]) 4 (ge_X5_put_4 γ p0 (2 + p1) x4 h3) hr wv_RX1_46 rfl (Nat.le_of_ble_eq_true rfl) (gat_4 _ _) rfl rfl (Nat.le_of_ble_eq_true rfl) (Nat.le_of_ble_eq_true rfl) dX1_settle_38) (fun h5 => ?_)
  refine g_aload_n (pc := 41) dX1_settle_41 rfl 2 rfl ?_
  refine gf_RX1_9_10 (pc := 42) dX1_settle_42 ?_
  refine gf_RX1_71_1 (pc := 45) dX1_settle_45 ?_
  refine g_iload_n (pc := 48) dX1_settle_48 rfl 4 rfl ?_
  refine g_iconst (pc := 49) (v := 3) dX1_settle_49 (by decide) ?_
  refine g_iload (pc := 50) dX1_settle_50 1 rfl ?_
  refine g_iload (pc := 52) dX1_settle_52 0 rfl ?_
  refine g_isub (pc := 54) dX1_settle_54 ?_
  refine g_cV (pc := 55) (st := []) (fun r hr => gRunV (As := [.int p1, .int 3, .int (x2 - x4)]) 5 (ge_X5_add_5 γ p1 3 (x2 - x4) h5) hr wv_RX1_50 rfl (Nat.le_of_ble_eq_true rfl) (gat_5 _ _) rfl rfl (Nat.le_of_ble_eq_true rfl) (Nat.le_of_ble_eq_true rfl) dX1_settle_55) (fun h6 => ?_)
  refine g_iload (pc := 58) dX1_settle_58 1 rfl ?_
  refine g_iload (pc := 60) dX1_settle_60 0 rfl ?_
  refine g_isub (pc := 62) dX1_settle_62 ?_
  exact g_ireturn (pc := 63) (ty := .int) dX1_settle_63 rfl rfl rfl
def lp_X6_pass_66 (R57 : Int32 → Int32 → Int32 → Int32 → Hst → Option (Int32 × Hst)) : Nat → Int32 → Int32 → Int32 → Int32 → Int32 → Hst → Option (Int32 × Hst)
  | 0, _, _, _, _, _, _ => none
  | n + 1, a1, a2, a3, a4, a5, h =>
    (if 5 ≤ a5 then
      (R57 a1 a2 a3 (a4 + 1) h)
    else
      gb (f_X1_settle a4 a5 a1 h) fun x2 h1 =>
      gl (a2 + x2) fun x3 =>
      ((lp_X6_pass_66 R57 n) a1 x3 a3 a4 (a5 + 1) h1))
def lp_X6_pass_57 : Nat → Int32 → Int32 → Int32 → Int32 → Hst → Option (Int32 × Hst)
  | 0, _, _, _, _, _ => none
  | n + 1, a1, a2, a3, a4, h =>
    (if a3 ≤ a4 then
      (some (a2, h))
    else
      (lp_X6_pass_66 (lp_X6_pass_57 n) FU a1 a2 a3 a4 0 h))
def f_X6_pass (p0 : Int32) (h : Hst) : Option (Int32 × Hst) :=
  gb (f_X6_isOutside p0 1 100 h) fun x2 h1 =>
  (if x2 = 0 then
    gbv (f_X0_save h1) fun h3 =>
    gbv (f_X3_add_7 6 p0 h3) fun h4 =>
    gb (f_X3_get_7 2 h4) fun x6 h5 =>
    (lp_X6_pass_57 FU p0 0 x6 0 h5)
  else
    none)
set_option maxRecDepth 20000 in
theorem glp_X6_pass_66 (γ : Gv) (R57 : Int32 → Int32 → Int32 → Int32 → Hst → Option (Int32 × Hst)) (hR57 : ∀ (a1 : Int32) (a2 : Int32) (a3 : Int32) (a4 : Int32) (h : Hst), G γ RX6 cX6_pass 6 (some .int) [] vI 3 0 57 [(0, .ref (gad γ 0)), (1, .int a1), (2, .int a2), (3, .int a3), (4, .int a4)] [] h (R57 a1 a2 a3 a4 h)) : ∀ (n : Nat) (a1 : Int32) (a2 : Int32) (a3 : Int32) (a4 : Int32) (a5 : Int32) (h : Hst), G γ RX6 cX6_pass 6 (some .int) [] vI 3 0 66 [(0, .ref (gad γ 0)), (1, .int a1), (2, .int a2), (3, .int a3), (4, .int a4), (5, .int a5)] [] h (lp_X6_pass_66 R57 n a1 a2 a3 a4 a5 h) := by
  intro n
  induction n with
  | zero => intro a1 a2 a3 a4 a5 h; exact g_none
  | succ n ih =>
    intro a1 a2 a3 a4 a5 h
    rw [lp_X6_pass_66]
    refine g_iload (pc := 66) dX6_pass_66 5 rfl ?_
    refine g_iconst (pc := 68) (v := 5) dX6_pass_68 (by decide) ?_
    refine g_icmp_ge (pc := 69) (tgt := 93) dX6_pass_69 (by decide) ?_ ?_
    · refine g_iinc (pc := 93) (q := 4) (v := a4 + 1) (lv' := [(4, .int (a4 + 1)), (0, .ref (gad γ 0)), (1, .int a1), (2, .int a2), (3, .int a3), (5, .int a5)]) dX6_pass_93 rfl rfl (by decide) rfl ?_
      refine g_goto (pc := 96) (tgt := 57) dX6_pass_96 (by decide) ?_
      exact g_sub [1, 2, 3, 4, 0] rfl (hR57 a1 a2 a3 (a4 + 1) h)
    · refine g_iload_n (pc := 72) dX6_pass_72 rfl 2 rfl ?_
      refine g_aload_n (pc := 73) dX6_pass_73 rfl 0 rfl ?_
      refine gf_RX6_21_0 (pc := 74) dX6_pass_74 ?_
      refine g_iload (pc := 77) dX6_pass_77 4 rfl ?_
      refine g_iload (pc := 79) dX6_pass_79 5 rfl ?_
      refine g_iload_n (pc := 81) dX6_pass_81 rfl 1 rfl ?_
      refine g_cI (pc := 82) (st := [.int a2]) (fun r hr => gRunV (As := [.int a4, .int a5, .int a1]) 10 (ge_X1_settle γ a4 a5 a1 h) hr wv_RX6_230 rfl (Nat.le_of_ble_eq_true rfl) (gat_10 _ _) rfl rfl (Nat.le_of_ble_eq_true rfl) (Nat.le_of_ble_eq_true rfl) dX6_pass_82) (fun x2 h1 => ?_)
      refine g_iadd (pc := 85) dX6_pass_85 ?_
      refine g_nmi (fun x3 => ?_)
      refine g_istore_n (pc := 86) (lv' := [(2, .int x3), (0, .ref (gad γ 0)), (1, .int a1), (3, .int a3), (4, .int a4), (5, .int a5)]) dX6_pass_86 rfl (by decide) rfl ?_
      refine g_iinc (pc := 87) (q := 5) (v := a5 + 1) (lv' := [(5, .int (a5 + 1)), (2, .int x3), (0, .ref (gad γ 0)), (1, .int a1), (3, .int a3), (4, .int a4)]) dX6_pass_87 rfl rfl (by decide) rfl ?_
      refine g_goto (pc := 90) (tgt := 66) dX6_pass_90 (by decide) ?_
      exact g_sub [2, 3, 1, 4, 5, 0] rfl (ih a1 x3 a3 a4 (a5 + 1) h1)
set_option maxRecDepth 20000 in
theorem glp_X6_pass_57 (γ : Gv)  : ∀ (n : Nat) (a1 : Int32) (a2 : Int32) (a3 : Int32) (a4 : Int32) (h : Hst), G γ RX6 cX6_pass 6 (some .int) [] vI 3 0 57 [(0, .ref (gad γ 0)), (1, .int a1), (2, .int a2), (3, .int a3), (4, .int a4)] [] h (lp_X6_pass_57 n a1 a2 a3 a4 h) := by
  intro n
  induction n with
  | zero => intro a1 a2 a3 a4 h; exact g_none
  | succ n ih =>
    intro a1 a2 a3 a4 h
    rw [lp_X6_pass_57]
    refine g_iload (pc := 57) dX6_pass_57 4 rfl ?_
    refine g_iload_n (pc := 59) dX6_pass_59 rfl 3 rfl ?_
    refine g_icmp_ge (pc := 60) (tgt := 99) dX6_pass_60 (by decide) ?_ ?_
    · refine g_iload_n (pc := 99) dX6_pass_99 rfl 2 rfl ?_
      exact g_ireturn (pc := 100) (ty := .int) dX6_pass_100 rfl rfl rfl
    · refine g_iconst (pc := 63) (v := 0) dX6_pass_63 (by decide) ?_
      refine g_istore (pc := 64) (lv' := [(5, .int 0), (0, .ref (gad γ 0)), (1, .int a1), (2, .int a2), (3, .int a3), (4, .int a4)]) dX6_pass_64 (by decide) rfl ?_
      exact g_sub [1, 2, 3, 4, 5, 0] rfl (glp_X6_pass_66 γ (lp_X6_pass_57 n) ih FU a1 a2 a3 a4 0 h)
set_option maxRecDepth 20000 in
theorem ge_X6_pass (γ : Gv) (p0 : Int32) (h : Hst) : G γ RX6 cX6_pass 6 (some .int) [] vI 3 0 0 (lv_args 0 [.ref (gad γ 0), .int p0]) [] h (f_X6_pass p0 h) := by
  show G γ RX6 cX6_pass 6 (some .int) [] vI 3 0 0 [(0, .ref (gad γ 0)), (1, .int p0)] [] h (f_X6_pass p0 h)
  unfold f_X6_pass
  refine g_iload_n (pc := 0) dX6_pass_0 rfl 1 rfl ?_
  refine g_iconst (pc := 1) (v := 1) dX6_pass_1 (by decide) ?_
  refine g_bipush (pc := 2) (v := 100) dX6_pass_2 (by decide) ?_
  refine g_cI (pc := 4) (st := []) (fun r hr => gRunS (As := [.int p0, .int 1, .int 100]) (ge_X6_isOutside γ p0 1 100 h) hr wv_RX6_79 rfl (Nat.le_of_ble_eq_true rfl) rfl (Nat.le_of_ble_eq_true rfl) (Nat.le_of_ble_eq_true rfl) dX6_pass_4) (fun x2 h1 => ?_)
  refine g_if_eq (pc := 7) (tgt := 20) dX6_pass_7 (by decide) ?_ ?_
  · refine g_aload_n (pc := 20) dX6_pass_20 rfl 0 rfl ?_
    refine gf_RX6_12_0 (pc := 21) dX6_pass_21 ?_
    refine g_cV (pc := 24) (st := []) (fun r hr => gRunV (As := []) 1 (ge_X0_save γ h1) hr wv_RX6_64 rfl (Nat.le_of_ble_eq_true rfl) (gat_1 _ _) rfl rfl (Nat.le_of_ble_eq_true rfl) (Nat.le_of_ble_eq_true rfl) dX6_pass_24) (fun h3 => ?_)
    refine g_aload_n (pc := 27) dX6_pass_27 rfl 0 rfl ?_
    refine gf_RX6_12_0 (pc := 28) dX6_pass_28 ?_
    refine gf_RX6_47_1 (pc := 31) dX6_pass_31 ?_
    refine g_bipush (pc := 34) (v := 6) dX6_pass_34 (by decide) ?_
    refine g_iload_n (pc := 36) dX6_pass_36 rfl 1 rfl ?_
    refine g_cV (pc := 37) (st := []) (fun r hr => gRunV (As := [.int 6, .int p0]) 7 (ge_X3_add_7 γ 6 p0 h3) hr wv_RX6_67 rfl (Nat.le_of_ble_eq_true rfl) (gat_7 _ _) rfl rfl (Nat.le_of_ble_eq_true rfl) (Nat.le_of_ble_eq_true rfl) dX6_pass_37) (fun h4 => ?_)
    refine g_iconst (pc := 40) (v := 0) dX6_pass_40 (by decide) ?_
    refine g_istore_n (pc := 41) (lv' := [(2, .int 0), (0, .ref (gad γ 0)), (1, .int p0)]) dX6_pass_41 rfl (by decide) rfl ?_
    refine g_aload_n (pc := 42) dX6_pass_42 rfl 1 rfl ?_
    refine gf_RX6_12_0 (pc := 43) dX6_pass_43 ?_
    refine gf_RX6_47_1 (pc := 46) dX6_pass_46 ?_
    refine g_iconst (pc := 49) (v := 2) dX6_pass_49 (by decide) ?_
    refine g_cI (pc := 50) (st := []) (fun r hr => gRunV (As := [.int 2]) 7 (ge_X3_get_7 γ 2 h4) hr wv_RX6_51 rfl (Nat.le_of_ble_eq_true rfl) (gat_7 _ _) rfl rfl (Nat.le_of_ble_eq_true rfl) (Nat.le_of_ble_eq_true rfl) dX6_pass_50) (fun x6 h5 => ?_)
    refine g_istore_n (pc := 53) (lv' := [(3, .int x6), (2, .int 0), (0, .ref (gad γ 0)), (1, .int p0)]) dX6_pass_53 rfl (by decide) rfl ?_
    refine g_iconst (pc := 54) (v := 0) dX6_pass_54 (by decide) ?_
    refine g_istore (pc := 55) (lv' := [(4, .int 0), (3, .int x6), (2, .int 0), (0, .ref (gad γ 0)), (1, .int p0)]) dX6_pass_55 (by decide) rfl ?_
    exact g_sub [3, 4, 2, 1, 0] rfl (glp_X6_pass_57 γ FU p0 0 x6 0 h5)
  · exact g_none
def jb_X6_checkTank_19   (h : Hst) : Option (Hst) :=
  none
def f_X6_checkTank (p0 : Int32) (h : Hst) : Option (Hst) :=
  (if p0 < 0 then
    (jb_X6_checkTank_19 h)
  else
    gb (f_X3_get_7 2 h) fun x2 h1 =>
    (if p0 < x2 then
      (some h1)
    else
      (jb_X6_checkTank_19 h1)))
set_option maxRecDepth 20000 in
theorem gjb_X6_checkTank_19 (γ : Gv)   (h : Hst) : G γ RX6 cX6_checkTank 2 none [] vV 1 0 19 [] [] h (jb_X6_checkTank_19 h) := by
  unfold jb_X6_checkTank_19
  exact g_none
set_option maxRecDepth 20000 in
theorem ge_X6_checkTank (γ : Gv) (p0 : Int32) (h : Hst) : G γ RX6 cX6_checkTank 2 none [] vV 1 0 0 (lv_args 0 [.ref (gad γ 0), .int p0]) [] h (f_X6_checkTank p0 h) := by
  show G γ RX6 cX6_checkTank 2 none [] vV 1 0 0 [(0, .ref (gad γ 0)), (1, .int p0)] [] h (f_X6_checkTank p0 h)
  unfold f_X6_checkTank
  refine g_iload_n (pc := 0) dX6_checkTank_0 rfl 1 rfl ?_
  refine g_if_lt (pc := 1) (tgt := 19) dX6_checkTank_1 (by decide) ?_ ?_
  · exact g_sub [] rfl (gjb_X6_checkTank_19 γ h)
  · refine g_iload_n (pc := 4) dX6_checkTank_4 rfl 1 rfl ?_
    refine g_aload_n (pc := 5) dX6_checkTank_5 rfl 0 rfl ?_
    refine gf_RX6_12_0 (pc := 6) dX6_checkTank_6 ?_
    refine gf_RX6_47_1 (pc := 9) dX6_checkTank_9 ?_
    refine g_iconst (pc := 12) (v := 2) dX6_checkTank_12 (by decide) ?_
    refine g_cI (pc := 13) (st := [.int p0]) (fun r hr => gRunV (As := [.int 2]) 7 (ge_X3_get_7 γ 2 h) hr wv_RX6_51 rfl (Nat.le_of_ble_eq_true rfl) (gat_7 _ _) rfl rfl (Nat.le_of_ble_eq_true rfl) (Nat.le_of_ble_eq_true rfl) dX6_checkTank_13) (fun x2 h1 => ?_)
    refine g_icmp_lt (pc := 16) (tgt := 30) dX6_checkTank_16 (by decide) ?_ ?_
    · exact g_return (pc := 30) dX6_checkTank_30 rfl rfl
    · exact g_sub [] rfl (gjb_X6_checkTank_19 γ h1)
def f_X6_checkOil (p0 : Int32) (h : Hst) : Option (Hst) :=
  gb (f_X6_isOutside p0 1 20000 h) fun x2 h1 =>
  (if x2 = 0 then
    (some h1)
  else
    none)
set_option maxRecDepth 20000 in
theorem ge_X6_checkOil (γ : Gv) (p0 : Int32) (h : Hst) : G γ RX6 cX6_checkOil 1 none [] vV 1 0 0 (lv_args 0 [.int p0]) [] h (f_X6_checkOil p0 h) := by
  show G γ RX6 cX6_checkOil 1 none [] vV 1 0 0 [(0, .int p0)] [] h (f_X6_checkOil p0 h)
  unfold f_X6_checkOil
  refine g_iload_n (pc := 0) dX6_checkOil_0 rfl 0 rfl ?_
  refine g_iconst (pc := 1) (v := 1) dX6_checkOil_1 (by decide) ?_
  refine g_sipush (pc := 2) (v := 20000) dX6_checkOil_2 (by decide) ?_
  refine g_cI (pc := 5) (st := []) (fun r hr => gRunS (As := [.int p0, .int 1, .int 20000]) (ge_X6_isOutside γ p0 1 20000 h) hr wv_RX6_79 rfl (Nat.le_of_ble_eq_true rfl) rfl (Nat.le_of_ble_eq_true rfl) (Nat.le_of_ble_eq_true rfl) dX6_checkOil_5) (fun x2 h1 => ?_)
  refine g_if_eq (pc := 8) (tgt := 22) dX6_checkOil_8 (by decide) ?_ ?_
  · exact g_return (pc := 22) dX6_checkOil_22 rfl rfl
  · exact g_none
def lp_X1_oilOf_4 : Nat → Int32 → Int32 → Int32 → Hst → Option (Int32 × Hst)
  | 0, _, _, _, _ => none
  | n + 1, a1, a2, a3, h =>
    (if 5 ≤ a3 then
      (some (a2, h))
    else
      gb (f_X5_get_4 a1 (2 + a3) h) fun x2 h1 =>
      gl (a2 + x2) fun x3 =>
      ((lp_X1_oilOf_4 n) a1 x3 (a3 + 1) h1))
def f_X1_oilOf (p0 : Int32) (h : Hst) : Option (Int32 × Hst) :=
  (lp_X1_oilOf_4 FU p0 0 0 h)
set_option maxRecDepth 20000 in
theorem glp_X1_oilOf_4 (γ : Gv)  : ∀ (n : Nat) (a1 : Int32) (a2 : Int32) (a3 : Int32) (h : Hst), G γ RX1 cX1_oilOf 4 (some .int) [] vI 1 0 4 [(0, .ref (gad γ 10)), (1, .int a1), (2, .int a2), (3, .int a3)] [] h (lp_X1_oilOf_4 n a1 a2 a3 h) := by
  intro n
  induction n with
  | zero => intro a1 a2 a3 h; exact g_none
  | succ n ih =>
    intro a1 a2 a3 h
    rw [lp_X1_oilOf_4]
    refine g_iload_n (pc := 4) dX1_oilOf_4 rfl 3 rfl ?_
    refine g_iconst (pc := 5) (v := 5) dX1_oilOf_5 (by decide) ?_
    refine g_icmp_ge (pc := 6) (tgt := 32) dX1_oilOf_6 (by decide) ?_ ?_
    · refine g_iload_n (pc := 32) dX1_oilOf_32 rfl 2 rfl ?_
      exact g_ireturn (pc := 33) (ty := .int) dX1_oilOf_33 rfl rfl rfl
    · refine g_iload_n (pc := 9) dX1_oilOf_9 rfl 2 rfl ?_
      refine g_aload_n (pc := 10) dX1_oilOf_10 rfl 0 rfl ?_
      refine gf_RX1_9_10 (pc := 11) dX1_oilOf_11 ?_
      refine gf_RX1_22_1 (pc := 14) dX1_oilOf_14 ?_
      refine g_iload_n (pc := 17) dX1_oilOf_17 rfl 1 rfl ?_
      refine g_iconst (pc := 18) (v := 2) dX1_oilOf_18 (by decide) ?_
      refine g_iload_n (pc := 19) dX1_oilOf_19 rfl 3 rfl ?_
      refine g_iadd (pc := 20) dX1_oilOf_20 ?_
      refine g_cI (pc := 21) (st := [.int a2]) (fun r hr => gRunV (As := [.int a1, .int (2 + a3)]) 4 (ge_X5_get_4 γ a1 (2 + a3) h) hr wv_RX1_28 rfl (Nat.le_of_ble_eq_true rfl) (gat_4 _ _) rfl rfl (Nat.le_of_ble_eq_true rfl) (Nat.le_of_ble_eq_true rfl) dX1_oilOf_21) (fun x2 h1 => ?_)
      refine g_iadd (pc := 24) dX1_oilOf_24 ?_
      refine g_nmi (fun x3 => ?_)
      refine g_istore_n (pc := 25) (lv' := [(2, .int x3), (0, .ref (gad γ 10)), (1, .int a1), (3, .int a3)]) dX1_oilOf_25 rfl (by decide) rfl ?_
      refine g_iinc (pc := 26) (q := 3) (v := a3 + 1) (lv' := [(3, .int (a3 + 1)), (2, .int x3), (0, .ref (gad γ 10)), (1, .int a1)]) dX1_oilOf_26 rfl rfl (by decide) rfl ?_
      refine g_goto (pc := 29) (tgt := 4) dX1_oilOf_29 (by decide) ?_
      exact g_sub [2, 3, 1, 0] rfl (ih a1 x3 (a3 + 1) h1)
set_option maxRecDepth 20000 in
theorem ge_X1_oilOf (γ : Gv) (p0 : Int32) (h : Hst) : G γ RX1 cX1_oilOf 4 (some .int) [] vI 1 0 0 (lv_args 0 [.ref (gad γ 10), .int p0]) [] h (f_X1_oilOf p0 h) := by
  show G γ RX1 cX1_oilOf 4 (some .int) [] vI 1 0 0 [(0, .ref (gad γ 10)), (1, .int p0)] [] h (f_X1_oilOf p0 h)
  unfold f_X1_oilOf
  refine g_iconst (pc := 0) (v := 0) dX1_oilOf_0 (by decide) ?_
  refine g_istore_n (pc := 1) (lv' := [(2, .int 0), (0, .ref (gad γ 10)), (1, .int p0)]) dX1_oilOf_1 rfl (by decide) rfl ?_
  refine g_iconst (pc := 2) (v := 0) dX1_oilOf_2 (by decide) ?_
  refine g_istore_n (pc := 3) (lv' := [(3, .int 0), (2, .int 0), (0, .ref (gad γ 10)), (1, .int p0)]) dX1_oilOf_3 rfl (by decide) rfl ?_
  exact g_sub [2, 3, 1, 0] rfl (glp_X1_oilOf_4 γ FU p0 0 0 h)
def jb_X1_gradeOf_24  (s0 : Int32) (h : Hst) : Option (Int32 × Hst) :=
  (some (s0, h))
def f_X1_gradeOf (p0 : Int32) (h : Hst) : Option (Int32 × Hst) :=
  gb (f_X1_oilOf p0 h) fun x2 h1 =>
  (if x2 ≤ 0 then
    (jb_X1_gradeOf_24 (-1) h1)
  else
    gb (f_X5_get_4 p0 1 h1) fun x4 h3 =>
    (jb_X1_gradeOf_24 x4 h3))
set_option maxRecDepth 20000 in
theorem gjb_X1_gradeOf_24 (γ : Gv)  (s0 : Int32) (h : Hst) : G γ RX1 cX1_gradeOf 2 (some .int) [] vI 2 0 24 [] [.int s0] h (jb_X1_gradeOf_24 s0 h) := by
  unfold jb_X1_gradeOf_24
  exact g_ireturn (pc := 24) (ty := .int) dX1_gradeOf_24 rfl rfl rfl
set_option maxRecDepth 20000 in
theorem ge_X1_gradeOf (γ : Gv) (p0 : Int32) (h : Hst) : G γ RX1 cX1_gradeOf 2 (some .int) [] vI 2 0 0 (lv_args 0 [.ref (gad γ 10), .int p0]) [] h (f_X1_gradeOf p0 h) := by
  show G γ RX1 cX1_gradeOf 2 (some .int) [] vI 2 0 0 [(0, .ref (gad γ 10)), (1, .int p0)] [] h (f_X1_gradeOf p0 h)
  unfold f_X1_gradeOf
  refine g_aload_n (pc := 0) dX1_gradeOf_0 rfl 0 rfl ?_
  refine g_iload_n (pc := 1) dX1_gradeOf_1 rfl 1 rfl ?_
  refine g_cI (pc := 2) (st := []) (fun r hr => gRunV (As := [.int p0]) 10 (ge_X1_oilOf γ p0 h) hr wv_RX1_34 rfl (Nat.le_of_ble_eq_true rfl) (gat_10 _ _) rfl rfl (Nat.le_of_ble_eq_true rfl) (Nat.le_of_ble_eq_true rfl) dX1_gradeOf_2) (fun x2 h1 => ?_)
  refine g_if_le (pc := 5) (tgt := 23) dX1_gradeOf_5 (by decide) ?_ ?_
  · refine g_iconst (pc := 23) (v := (-1)) dX1_gradeOf_23 (by decide) ?_
    exact g_sub [] rfl (gjb_X1_gradeOf_24 γ (-1) h1)
  · refine g_aload_n (pc := 8) dX1_gradeOf_8 rfl 0 rfl ?_
    refine gf_RX1_9_10 (pc := 9) dX1_gradeOf_9 ?_
    refine gf_RX1_22_1 (pc := 12) dX1_gradeOf_12 ?_
    refine g_iload_n (pc := 15) dX1_gradeOf_15 rfl 1 rfl ?_
    refine g_iconst (pc := 16) (v := 1) dX1_gradeOf_16 (by decide) ?_
    refine g_cI (pc := 17) (st := []) (fun r hr => gRunV (As := [.int p0, .int 1]) 4 (ge_X5_get_4 γ p0 1 h1) hr wv_RX1_28 rfl (Nat.le_of_ble_eq_true rfl) (gat_4 _ _) rfl rfl (Nat.le_of_ble_eq_true rfl) (Nat.le_of_ble_eq_true rfl) dX1_gradeOf_17) (fun x4 h3 => ?_)
    refine g_goto (pc := 20) (tgt := 24) dX1_gradeOf_20 (by decide) ?_
    exact g_sub [] rfl (gjb_X1_gradeOf_24 γ x4 h3)
def f_X1_roomOf (p0 : Int32) (h : Hst) : Option (Int32 × Hst) :=
  gb (f_X5_get_4 p0 0 h) fun x2 h1 =>
  gb (f_X1_oilOf p0 h1) fun x4 h3 =>
  (some (x2 - x4, h3))
set_option maxRecDepth 20000 in
theorem ge_X1_roomOf (γ : Gv) (p0 : Int32) (h : Hst) : G γ RX1 cX1_roomOf 2 (some .int) [] vI 2 0 0 (lv_args 0 [.ref (gad γ 10), .int p0]) [] h (f_X1_roomOf p0 h) := by
  show G γ RX1 cX1_roomOf 2 (some .int) [] vI 2 0 0 [(0, .ref (gad γ 10)), (1, .int p0)] [] h (f_X1_roomOf p0 h)
  unfold f_X1_roomOf
  refine g_aload_n (pc := 0) dX1_roomOf_0 rfl 0 rfl ?_
  refine gf_RX1_9_10 (pc := 1) dX1_roomOf_1 ?_
  refine gf_RX1_22_1 (pc := 4) dX1_roomOf_4 ?_
  refine g_iload_n (pc := 7) dX1_roomOf_7 rfl 1 rfl ?_
  refine g_iconst (pc := 8) (v := 0) dX1_roomOf_8 (by decide) ?_
  refine g_cI (pc := 9) (st := []) (fun r hr => gRunV (As := [.int p0, .int 0]) 4 (ge_X5_get_4 γ p0 0 h) hr wv_RX1_28 rfl (Nat.le_of_ble_eq_true rfl) (gat_4 _ _) rfl rfl (Nat.le_of_ble_eq_true rfl) (Nat.le_of_ble_eq_true rfl) dX1_roomOf_9) (fun x2 h1 => ?_)
  refine g_aload_n (pc := 12) dX1_roomOf_12 rfl 0 rfl ?_
  refine g_iload_n (pc := 13) dX1_roomOf_13 rfl 1 rfl ?_
  refine g_cI (pc := 14) (st := [.int x2]) (fun r hr => gRunV (As := [.int p0]) 10 (ge_X1_oilOf γ p0 h1) hr wv_RX1_34 rfl (Nat.le_of_ble_eq_true rfl) (gat_10 _ _) rfl rfl (Nat.le_of_ble_eq_true rfl) (Nat.le_of_ble_eq_true rfl) dX1_roomOf_14) (fun x4 h3 => ?_)
  refine g_isub (pc := 17) dX1_roomOf_17 ?_
  exact g_ireturn (pc := 18) (ty := .int) dX1_roomOf_18 rfl rfl rfl
def jb_X1_admits_28  (s0 : Int32) (h : Hst) : Option (Int32 × Hst) :=
  (gzr s0 (some (s0, h)))
def jb_X1_admits_23   (h : Hst) : Option (Int32 × Hst) :=
  (jb_X1_admits_28 1 h)
def f_X1_admits (p0 : Int32) (p1 : Int32) (p2 : Int32) (h : Hst) : Option (Int32 × Hst) :=
  gb (f_X1_gradeOf p0 h) fun x2 h1 =>
  (if p2 = 0 then
    (if x2 = (-1) then
      (jb_X1_admits_23 h1)
    else
      (if x2 = p1 then
        (jb_X1_admits_23 h1)
      else
        (jb_X1_admits_28 0 h1)))
  else
    (jb_X1_admits_23 h1))
set_option maxRecDepth 20000 in
theorem gjb_X1_admits_28 (γ : Gv)  (s0 : Int32) (h : Hst) : G γ RX1 cX1_admits 5 (some .boolean) [] vI 3 0 28 [] [.int s0] h (jb_X1_admits_28 s0 h) := by
  unfold jb_X1_admits_28
  exact g_zreturn (pc := 28) dX1_admits_28 rfl rfl
set_option maxRecDepth 20000 in
theorem gjb_X1_admits_23 (γ : Gv)   (h : Hst) : G γ RX1 cX1_admits 5 (some .boolean) [] vI 3 0 23 [] [] h (jb_X1_admits_23 h) := by
  unfold jb_X1_admits_23
  refine g_iconst (pc := 23) (v := 1) dX1_admits_23 (by decide) ?_
  refine g_goto (pc := 24) (tgt := 28) dX1_admits_24 (by decide) ?_
  exact gjb_X1_admits_28 γ 1 h
set_option maxRecDepth 20000 in
theorem ge_X1_admits (γ : Gv) (p0 : Int32) (p1 : Int32) (p2 : Int32) (h : Hst) : G γ RX1 cX1_admits 5 (some .boolean) [] vI 3 0 0 (lv_args 0 [.ref (gad γ 10), .int p0, .int p1, .int p2]) [] h (f_X1_admits p0 p1 p2 h) := by
  show G γ RX1 cX1_admits 5 (some .boolean) [] vI 3 0 0 [(0, .ref (gad γ 10)), (1, .int p0), (2, .int p1), (3, .int p2)] [] h (f_X1_admits p0 p1 p2 h)
  unfold f_X1_admits
  refine g_aload_n (pc := 0) dX1_admits_0 rfl 0 rfl ?_
  refine g_iload_n (pc := 1) dX1_admits_1 rfl 1 rfl ?_
  refine g_cI (pc := 2) (st := []) (fun r hr => gRunV (As := [.int p0]) 10 (ge_X1_gradeOf γ p0 h) hr wv_RX1_38 rfl (Nat.le_of_ble_eq_true rfl) (gat_10 _ _) rfl rfl (Nat.le_of_ble_eq_true rfl) (Nat.le_of_ble_eq_true rfl) dX1_admits_2) (fun x2 h1 => ?_)
  refine g_istore (pc := 5) (lv' := [(4, .int x2), (0, .ref (gad γ 10)), (1, .int p0), (2, .int p1), (3, .int p2)]) dX1_admits_5 (by decide) rfl ?_
  refine g_iload_n (pc := 7) dX1_admits_7 rfl 4 rfl ?_
  refine g_if_ne (pc := 8) (tgt := 23) dX1_admits_8 (by decide) ?_ ?_
  · exact g_sub [] rfl (gjb_X1_admits_23 γ h1)
  · refine g_iload (pc := 11) dX1_admits_11 0 rfl ?_
    refine g_iconst (pc := 13) (v := (-1)) dX1_admits_13 (by decide) ?_
    refine g_icmp_eq (pc := 14) (tgt := 23) dX1_admits_14 (by decide) ?_ ?_
    · exact g_sub [] rfl (gjb_X1_admits_23 γ h1)
    · refine g_iload (pc := 17) dX1_admits_17 0 rfl ?_
      refine g_iload_n (pc := 19) dX1_admits_19 rfl 3 rfl ?_
      refine g_icmp_ne (pc := 20) (tgt := 27) dX1_admits_20 (by decide) ?_ ?_
      · refine g_iconst (pc := 27) (v := 0) dX1_admits_27 (by decide) ?_
        exact g_sub [] rfl (gjb_X1_admits_28 γ 0 h1)
      · exact g_sub [] rfl (gjb_X1_admits_23 γ h1)
def jb_X1_greatestRemainder_30 (R4 : Int32 → Int32 → Hst → Option (Int32 × Hst)) (a1 : Int32) (a2 : Int32) (h : Hst) : Option (Int32 × Hst) :=
  (R4 a1 (a2 + 1) h)
def lp_X1_greatestRemainder_4 : Nat → Int32 → Int32 → Hst → Option (Int32 × Hst)
  | 0, _, _, _ => none
  | n + 1, a1, a2, h =>
    (if 5 ≤ a2 then
      (some (a1, h))
    else
      gck a2 5 (gck a1 5 ((if (h.1 12 a2.toNatClampNeg) ≤ (h.1 12 a1.toNatClampNeg) then
        (jb_X1_greatestRemainder_30 (lp_X1_greatestRemainder_4 n) a1 a2 h)
      else
        (jb_X1_greatestRemainder_30 (lp_X1_greatestRemainder_4 n) a2 a2 h)))))
def f_X1_greatestRemainder  (h : Hst) : Option (Int32 × Hst) :=
  (lp_X1_greatestRemainder_4 FU 0 1 h)
set_option maxRecDepth 20000 in
theorem gjb_X1_greatestRemainder_30 (γ : Gv) (R4 : Int32 → Int32 → Hst → Option (Int32 × Hst)) (hR4 : ∀ (a1 : Int32) (a2 : Int32) (h : Hst), G γ RX1 cX1_greatestRemainder 3 (some .int) [] vI 0 0 4 [(0, .ref (gad γ 10)), (1, .int a1), (2, .int a2)] [] h (R4 a1 a2 h)) (a1 : Int32) (a2 : Int32) (h : Hst) : G γ RX1 cX1_greatestRemainder 3 (some .int) [] vI 0 0 30 [(0, .ref (gad γ 10)), (1, .int a1), (2, .int a2)] [] h (jb_X1_greatestRemainder_30 R4 a1 a2 h) := by
  unfold jb_X1_greatestRemainder_30
  refine g_iinc (pc := 30) (q := 2) (v := a2 + 1) (lv' := [(2, .int (a2 + 1)), (0, .ref (gad γ 10)), (1, .int a1)]) dX1_greatestRemainder_30 rfl rfl (by decide) rfl ?_
  refine g_goto (pc := 33) (tgt := 4) dX1_greatestRemainder_33 (by decide) ?_
  exact g_sub [1, 2, 0] rfl (hR4 a1 (a2 + 1) h)
set_option maxRecDepth 20000 in
theorem glp_X1_greatestRemainder_4 (γ : Gv)  : ∀ (n : Nat) (a1 : Int32) (a2 : Int32) (h : Hst), G γ RX1 cX1_greatestRemainder 3 (some .int) [] vI 0 0 4 [(0, .ref (gad γ 10)), (1, .int a1), (2, .int a2)] [] h (lp_X1_greatestRemainder_4 n a1 a2 h) := by
  intro n
  induction n with
  | zero => intro a1 a2 h; exact g_none
  | succ n ih =>
    intro a1 a2 h
    rw [lp_X1_greatestRemainder_4]
    refine g_iload_n (pc := 4) dX1_greatestRemainder_4 rfl 2 rfl ?_
    refine g_aload_n (pc := 5) dX1_greatestRemainder_5 rfl 0 rfl ?_
    refine gf_RX1_19_10 (pc := 6) dX1_greatestRemainder_6 ?_
    refine g_alen (pc := 9) (n := 0) (v := 5) 12 0 (gat_12 _ _) rfl rfl dX1_greatestRemainder_9 ?_
    refine g_icmp_ge (pc := 10) (tgt := 36) dX1_greatestRemainder_10 (by decide) ?_ ?_
    · refine g_iload_n (pc := 36) dX1_greatestRemainder_36 rfl 1 rfl ?_
      exact g_ireturn (pc := 37) (ty := .int) dX1_greatestRemainder_37 rfl rfl rfl
    · refine g_aload_n (pc := 13) dX1_greatestRemainder_13 rfl 0 rfl ?_
      refine gf_RX1_19_10 (pc := 14) dX1_greatestRemainder_14 ?_
      refine g_iload_n (pc := 17) dX1_greatestRemainder_17 rfl 2 rfl ?_
      refine g_iald (pc := 18) 12 (gat_12 _ _) dX1_greatestRemainder_18 ?_
      refine g_aload_n (pc := 19) dX1_greatestRemainder_19 rfl 0 rfl ?_
      refine gf_RX1_19_10 (pc := 20) dX1_greatestRemainder_20 ?_
      refine g_iload_n (pc := 23) dX1_greatestRemainder_23 rfl 1 rfl ?_
      refine g_iald (pc := 24) 12 (gat_12 _ _) dX1_greatestRemainder_24 ?_
      refine g_icmp_le (pc := 25) (tgt := 30) dX1_greatestRemainder_25 (by decide) ?_ ?_
      · exact gjb_X1_greatestRemainder_30 γ (lp_X1_greatestRemainder_4 n) ih a1 a2 h
      · refine g_iload_n (pc := 28) dX1_greatestRemainder_28 rfl 2 rfl ?_
        refine g_istore_n (pc := 29) (lv' := [(1, .int a2), (0, .ref (gad γ 10)), (2, .int a2)]) dX1_greatestRemainder_29 rfl (by decide) rfl ?_
        exact g_sub [1, 0, 2] rfl (gjb_X1_greatestRemainder_30 γ (lp_X1_greatestRemainder_4 n) ih a2 a2 h)
set_option maxRecDepth 20000 in
theorem ge_X1_greatestRemainder (γ : Gv)  (h : Hst) : G γ RX1 cX1_greatestRemainder 3 (some .int) [] vI 0 0 0 (lv_args 0 [.ref (gad γ 10)]) [] h (f_X1_greatestRemainder h) := by
  show G γ RX1 cX1_greatestRemainder 3 (some .int) [] vI 0 0 0 [(0, .ref (gad γ 10))] [] h (f_X1_greatestRemainder h)
  unfold f_X1_greatestRemainder
  refine g_iconst (pc := 0) (v := 0) dX1_greatestRemainder_0 (by decide) ?_
  refine g_istore_n (pc := 1) (lv' := [(1, .int 0), (0, .ref (gad γ 10))]) dX1_greatestRemainder_1 rfl (by decide) rfl ?_
  refine g_iconst (pc := 2) (v := 1) dX1_greatestRemainder_2 (by decide) ?_
  refine g_istore_n (pc := 3) (lv' := [(2, .int 1), (1, .int 0), (0, .ref (gad γ 10))]) dX1_greatestRemainder_3 rfl (by decide) rfl ?_
  exact g_sub [2, 1, 0] rfl (glp_X1_greatestRemainder_4 γ FU 0 1 h)
def jb_X1_roundUp_39   (h : Hst) : Option (Hst) :=
  (some h)
def f_X1_roundUp (p0 : Int32) (h : Hst) : Option (Hst) :=
  (if p0 < 0 then
    (jb_X1_roundUp_39 h)
  else
    (if 5 ≤ p0 then
      (jb_X1_roundUp_39 h)
    else
      (if 5 ≤ p0 then
        (jb_X1_roundUp_39 h)
      else
        gck p0 5 (gck p0 5 (gl (hst h 11 p0.toNatClampNeg ((h.1 11 p0.toNatClampNeg) + 1)) fun h1 =>
        gck p0 5 (gl (hst h1 12 p0.toNatClampNeg 0) fun h2 =>
        (jb_X1_roundUp_39 h2)))))))
set_option maxRecDepth 20000 in
theorem gjb_X1_roundUp_39 (γ : Gv)   (h : Hst) : G γ RX1 cX1_roundUp 2 none [] vV 0 0 39 [] [] h (jb_X1_roundUp_39 h) := by
  unfold jb_X1_roundUp_39
  exact g_return (pc := 39) dX1_roundUp_39 rfl rfl
set_option maxRecDepth 20000 in
theorem ge_X1_roundUp (γ : Gv) (p0 : Int32) (h : Hst) : G γ RX1 cX1_roundUp 2 none [] vV 0 0 0 (lv_args 0 [.ref (gad γ 10), .int p0]) [] h (f_X1_roundUp p0 h) := by
  show G γ RX1 cX1_roundUp 2 none [] vV 0 0 0 [(0, .ref (gad γ 10)), (1, .int p0)] [] h (f_X1_roundUp p0 h)
  unfold f_X1_roundUp
  refine g_iload_n (pc := 0) dX1_roundUp_0 rfl 1 rfl ?_
  refine g_if_lt (pc := 1) (tgt := 39) dX1_roundUp_1 (by decide) ?_ ?_
  · exact g_sub [] rfl (gjb_X1_roundUp_39 γ h)
  · refine g_iload_n (pc := 4) dX1_roundUp_4 rfl 1 rfl ?_
    refine g_aload_n (pc := 5) dX1_roundUp_5 rfl 0 rfl ?_
    refine gf_RX1_15_10 (pc := 6) dX1_roundUp_6 ?_
    refine g_alen (pc := 9) (n := 0) (v := 5) 11 0 (gat_11 _ _) rfl rfl dX1_roundUp_9 ?_
    refine g_icmp_ge (pc := 10) (tgt := 39) dX1_roundUp_10 (by decide) ?_ ?_
    · exact g_sub [] rfl (gjb_X1_roundUp_39 γ h)
    · refine g_iload_n (pc := 13) dX1_roundUp_13 rfl 1 rfl ?_
      refine g_aload_n (pc := 14) dX1_roundUp_14 rfl 0 rfl ?_
      refine gf_RX1_19_10 (pc := 15) dX1_roundUp_15 ?_
      refine g_alen (pc := 18) (n := 0) (v := 5) 12 0 (gat_12 _ _) rfl rfl dX1_roundUp_18 ?_
      refine g_icmp_ge (pc := 19) (tgt := 39) dX1_roundUp_19 (by decide) ?_ ?_
      · exact g_sub [] rfl (gjb_X1_roundUp_39 γ h)
      · refine g_aload_n (pc := 22) dX1_roundUp_22 rfl 0 rfl ?_
        refine gf_RX1_15_10 (pc := 23) dX1_roundUp_23 ?_
        refine g_iload_n (pc := 26) dX1_roundUp_26 rfl 1 rfl ?_
        refine g_dup2 (pc := 27) dX1_roundUp_27 rfl rfl ?_
        refine g_iald (pc := 28) 11 (gat_11 _ _) dX1_roundUp_28 ?_
        refine g_iconst (pc := 29) (v := 1) dX1_roundUp_29 (by decide) ?_
        refine g_iadd (pc := 30) dX1_roundUp_30 ?_
        refine g_iast (pc := 31) 11 (gat_11 _ _) (gset_11 _ _ _) dX1_roundUp_31 ?_
        refine g_nmh (fun h1 => ?_)
        refine g_aload_n (pc := 32) dX1_roundUp_32 rfl 0 rfl ?_
        refine gf_RX1_19_10 (pc := 33) dX1_roundUp_33 ?_
        refine g_iload_n (pc := 36) dX1_roundUp_36 rfl 1 rfl ?_
        refine g_iconst (pc := 37) (v := 0) dX1_roundUp_37 (by decide) ?_
        refine g_iast (pc := 38) 12 (gat_12 _ _) (gset_12 _ _ _) dX1_roundUp_38 ?_
        refine g_nmh (fun h2 => ?_)
        exact g_sub [] rfl (gjb_X1_roundUp_39 γ h2)
def jb_X1_split_127   (h : Hst) : Option (Hst) :=
  (some h)
def lp_X1_split_99 : Nat → Int32 → Int32 → Hst → Option (Hst)
  | 0, _, _, _ => none
  | n + 1, a4, a5, h =>
    (if 5 ≤ a5 then
      (jb_X1_split_127 h)
    else
      (if a4 ≤ 0 then
        (jb_X1_split_127 h)
      else
        gb (f_X1_greatestRemainder h) fun x2 h1 =>
        gbv (f_X1_roundUp x2 h1) fun h3 =>
        ((lp_X1_split_99 n) (a4 + (-1)) (a5 + 1) h3)))
def jb_X1_split_96  (a4 : Int32) (h : Hst) : Option (Hst) :=
  (lp_X1_split_99 FU a4 0 h)
def lp_X1_split_17 : Nat → Int32 → Int32 → Int32 → Int32 → Int32 → Hst → Option (Hst)
  | 0, _, _, _, _, _, _ => none
  | n + 1, a1, a2, a3, a4, a5, h =>
    (if 5 ≤ a5 then
      (jb_X1_split_96 a4 h)
    else
      (if 5 ≤ a5 then
        (jb_X1_split_96 a4 h)
      else
        gb (f_X5_get_4 a1 (2 + a5) h) fun x2 h1 =>
        gl (x2 * a2) fun x3 =>
        gdz a3 (gck a5 5 (gl (hst h1 11 a5.toNatClampNeg (x3 / a3)) fun h4 =>
        gdz a3 (gck a5 5 (gl (hst h4 12 a5.toNatClampNeg (x3 - x3 / a3 * a3)) fun h5 =>
        gck a5 5 (gl (a4 - (h5.1 11 a5.toNatClampNeg)) fun x6 =>
        ((lp_X1_split_17 n) a1 a2 a3 x6 (a5 + 1) h5))))))))
def f_X1_split (p0 : Int32) (p1 : Int32) (h : Hst) : Option (Hst) :=
  gb (f_X1_oilOf p0 h) fun x2 h1 =>
  (if 0 < x2 then
    (lp_X1_split_17 FU p0 p1 x2 p1 0 h1)
  else
    (some h1))
set_option maxRecDepth 20000 in
theorem gjb_X1_split_127 (γ : Gv)   (h : Hst) : G γ RX1 cX1_split 7 none [] vV 2 0 127 [] [] h (jb_X1_split_127 h) := by
  unfold jb_X1_split_127
  exact g_return (pc := 127) dX1_split_127 rfl rfl
set_option maxRecDepth 20000 in
theorem glp_X1_split_99 (γ : Gv)  : ∀ (n : Nat) (a4 : Int32) (a5 : Int32) (h : Hst), G γ RX1 cX1_split 7 none [] vV 2 0 99 [(0, .ref (gad γ 10)), (4, .int a4), (5, .int a5)] [] h (lp_X1_split_99 n a4 a5 h) := by
  intro n
  induction n with
  | zero => intro a4 a5 h; exact g_none
  | succ n ih =>
    intro a4 a5 h
    rw [lp_X1_split_99]
    refine g_iload (pc := 99) dX1_split_99 2 rfl ?_
    refine g_iconst (pc := 101) (v := 5) dX1_split_101 (by decide) ?_
    refine g_icmp_ge (pc := 102) (tgt := 127) dX1_split_102 (by decide) ?_ ?_
    · exact g_sub [] rfl (gjb_X1_split_127 γ h)
    · refine g_iload (pc := 105) dX1_split_105 1 rfl ?_
      refine g_if_le (pc := 107) (tgt := 127) dX1_split_107 (by decide) ?_ ?_
      · exact g_sub [] rfl (gjb_X1_split_127 γ h)
      · refine g_aload_n (pc := 110) dX1_split_110 rfl 0 rfl ?_
        refine g_aload_n (pc := 111) dX1_split_111 rfl 0 rfl ?_
        refine g_cI (pc := 112) (st := [.ref (gad γ 10)]) (fun r hr => gRunV (As := []) 10 (ge_X1_greatestRemainder γ h) hr wv_RX1_74 rfl (Nat.le_of_ble_eq_true rfl) (gat_10 _ _) rfl rfl (Nat.le_of_ble_eq_true rfl) (Nat.le_of_ble_eq_true rfl) dX1_split_112) (fun x2 h1 => ?_)
        refine g_cV (pc := 115) (st := []) (fun r hr => gRunV (As := [.int x2]) 10 (ge_X1_roundUp γ x2 h1) hr wv_RX1_78 rfl (Nat.le_of_ble_eq_true rfl) (gat_10 _ _) rfl rfl (Nat.le_of_ble_eq_true rfl) (Nat.le_of_ble_eq_true rfl) dX1_split_115) (fun h3 => ?_)
        refine g_iinc (pc := 118) (q := 1) (v := a4 + (-1)) (lv' := [(4, .int (a4 + (-1))), (0, .ref (gad γ 10)), (5, .int a5)]) dX1_split_118 rfl rfl (by decide) rfl ?_
        refine g_iinc (pc := 121) (q := 2) (v := a5 + 1) (lv' := [(5, .int (a5 + 1)), (4, .int (a4 + (-1))), (0, .ref (gad γ 10))]) dX1_split_121 rfl rfl (by decide) rfl ?_
        refine g_goto (pc := 124) (tgt := 99) dX1_split_124 (by decide) ?_
        exact g_sub [2, 1, 0] rfl (ih (a4 + (-1)) (a5 + 1) h3)
set_option maxRecDepth 20000 in
theorem gjb_X1_split_96 (γ : Gv)  (a4 : Int32) (h : Hst) : G γ RX1 cX1_split 7 none [] vV 2 0 96 [(0, .ref (gad γ 10)), (4, .int a4)] [] h (jb_X1_split_96 a4 h) := by
  unfold jb_X1_split_96
  refine g_iconst (pc := 96) (v := 0) dX1_split_96 (by decide) ?_
  refine g_istore (pc := 97) (lv' := [(5, .int 0), (0, .ref (gad γ 10)), (4, .int a4)]) dX1_split_97 (by decide) rfl ?_
  exact g_sub [1, 2, 0] rfl (glp_X1_split_99 γ FU a4 0 h)
set_option maxRecDepth 20000 in
theorem glp_X1_split_17 (γ : Gv)  : ∀ (n : Nat) (a1 : Int32) (a2 : Int32) (a3 : Int32) (a4 : Int32) (a5 : Int32) (h : Hst), G γ RX1 cX1_split 7 none [] vV 2 0 17 [(0, .ref (gad γ 10)), (1, .int a1), (2, .int a2), (3, .int a3), (4, .int a4), (5, .int a5)] [] h (lp_X1_split_17 n a1 a2 a3 a4 a5 h) := by
  intro n
  induction n with
  | zero => intro a1 a2 a3 a4 a5 h; exact g_none
  | succ n ih =>
    intro a1 a2 a3 a4 a5 h
    rw [lp_X1_split_17]
    refine g_iload (pc := 17) dX1_split_17 5 rfl ?_
    refine g_aload_n (pc := 19) dX1_split_19 rfl 0 rfl ?_
    refine gf_RX1_15_10 (pc := 20) dX1_split_20 ?_
    refine g_alen (pc := 23) (n := 0) (v := 5) 11 0 (gat_11 _ _) rfl rfl dX1_split_23 ?_
    refine g_icmp_ge (pc := 24) (tgt := 96) dX1_split_24 (by decide) ?_ ?_
    · exact g_sub [0, 4] rfl (gjb_X1_split_96 γ a4 h)
    · refine g_iload (pc := 27) dX1_split_27 5 rfl ?_
      refine g_aload_n (pc := 29) dX1_split_29 rfl 0 rfl ?_
      refine gf_RX1_19_10 (pc := 30) dX1_split_30 ?_
      refine g_alen (pc := 33) (n := 0) (v := 5) 12 0 (gat_12 _ _) rfl rfl dX1_split_33 ?_
      refine g_icmp_ge (pc := 34) (tgt := 96) dX1_split_34 (by decide) ?_ ?_
      · exact g_sub [0, 4] rfl (gjb_X1_split_96 γ a4 h)
      · refine g_aload_n (pc := 37) dX1_split_37 rfl 0 rfl ?_
        refine gf_RX1_9_10 (pc := 38) dX1_split_38 ?_
        refine gf_RX1_22_1 (pc := 41) dX1_split_41 ?_
        refine g_iload_n (pc := 44) dX1_split_44 rfl 1 rfl ?_
        refine g_iconst (pc := 45) (v := 2) dX1_split_45 (by decide) ?_
        refine g_iload (pc := 46) dX1_split_46 5 rfl ?_
        refine g_iadd (pc := 48) dX1_split_48 ?_
        refine g_cI (pc := 49) (st := []) (fun r hr => gRunV (As := [.int a1, .int (2 + a5)]) 4 (ge_X5_get_4 γ a1 (2 + a5) h) hr wv_RX1_28 rfl (Nat.le_of_ble_eq_true rfl) (gat_4 _ _) rfl rfl (Nat.le_of_ble_eq_true rfl) (Nat.le_of_ble_eq_true rfl) dX1_split_49) (fun x2 h1 => ?_)
        refine g_iload_n (pc := 52) dX1_split_52 rfl 2 rfl ?_
        refine g_imul (pc := 53) dX1_split_53 ?_
        refine g_nmi (fun x3 => ?_)
        refine g_istore (pc := 54) (lv' := [(6, .int x3), (0, .ref (gad γ 10)), (1, .int a1), (2, .int a2), (3, .int a3), (4, .int a4), (5, .int a5)]) dX1_split_54 (by decide) rfl ?_
        refine g_aload_n (pc := 56) dX1_split_56 rfl 1 rfl ?_
        refine gf_RX1_15_10 (pc := 57) dX1_split_57 ?_
        refine g_iload (pc := 60) dX1_split_60 6 rfl ?_
        refine g_iload (pc := 62) dX1_split_62 0 rfl ?_
        refine g_iload_n (pc := 64) dX1_split_64 rfl 4 rfl ?_
        refine g_idiv (pc := 65) dX1_split_65 ?_
        refine g_iast (pc := 66) 11 (gat_11 _ _) (gset_11 _ _ _) dX1_split_66 ?_
        refine g_nmh (fun h4 => ?_)
        refine g_aload_n (pc := 67) dX1_split_67 rfl 1 rfl ?_
        refine gf_RX1_19_10 (pc := 68) dX1_split_68 ?_
        refine g_iload (pc := 71) dX1_split_71 6 rfl ?_
        refine g_iload (pc := 73) dX1_split_73 0 rfl ?_
        refine g_iload_n (pc := 75) dX1_split_75 rfl 4 rfl ?_
        refine g_irem (pc := 76) dX1_split_76 ?_
        refine g_iast (pc := 77) 12 (gat_12 _ _) (gset_12 _ _ _) dX1_split_77 ?_
        refine g_nmh (fun h5 => ?_)
        refine g_iload (pc := 78) dX1_split_78 5 rfl ?_
        refine g_aload_n (pc := 80) dX1_split_80 rfl 1 rfl ?_
        refine gf_RX1_15_10 (pc := 81) dX1_split_81 ?_
        refine g_iload (pc := 84) dX1_split_84 6 rfl ?_
        refine g_iald (pc := 86) 11 (gat_11 _ _) dX1_split_86 ?_
        refine g_isub (pc := 87) dX1_split_87 ?_
        refine g_nmi (fun x6 => ?_)
        refine g_istore (pc := 88) (lv' := [(4, .int x6), (6, .int x3), (0, .ref (gad γ 10)), (1, .int a1), (2, .int a2), (3, .int a3), (5, .int a5)]) dX1_split_88 (by decide) rfl ?_
        refine g_iinc (pc := 90) (q := 6) (v := a5 + 1) (lv' := [(5, .int (a5 + 1)), (4, .int x6), (6, .int x3), (0, .ref (gad γ 10)), (1, .int a1), (2, .int a2), (3, .int a3)]) dX1_split_90 rfl rfl (by decide) rfl ?_
        refine g_goto (pc := 93) (tgt := 17) dX1_split_93 (by decide) ?_
        exact g_sub [3, 4, 5, 6, 1, 0] rfl (ih a1 a2 a3 x6 (a5 + 1) h5)
set_option maxRecDepth 20000 in
theorem ge_X1_split (γ : Gv) (p0 : Int32) (p1 : Int32) (h : Hst) : G γ RX1 cX1_split 7 none [] vV 2 0 0 (lv_args 0 [.ref (gad γ 10), .int p0, .int p1]) [] h (f_X1_split p0 p1 h) := by
  show G γ RX1 cX1_split 7 none [] vV 2 0 0 [(0, .ref (gad γ 10)), (1, .int p0), (2, .int p1)] [] h (f_X1_split p0 p1 h)
  unfold f_X1_split
  refine g_aload_n (pc := 0) dX1_split_0 rfl 0 rfl ?_
  refine g_iload_n (pc := 1) dX1_split_1 rfl 1 rfl ?_
  refine g_cI (pc := 2) (st := []) (fun r hr => gRunV (As := [.int p0]) 10 (ge_X1_oilOf γ p0 h) hr wv_RX1_34 rfl (Nat.le_of_ble_eq_true rfl) (gat_10 _ _) rfl rfl (Nat.le_of_ble_eq_true rfl) (Nat.le_of_ble_eq_true rfl) dX1_split_2) (fun x2 h1 => ?_)
  refine g_istore_n (pc := 5) (lv' := [(3, .int x2), (0, .ref (gad γ 10)), (1, .int p0), (2, .int p1)]) dX1_split_5 rfl (by decide) rfl ?_
  refine g_iload_n (pc := 6) dX1_split_6 rfl 0 rfl ?_
  refine g_if_gt (pc := 7) (tgt := 11) dX1_split_7 (by decide) ?_ ?_
  · refine g_iload_n (pc := 11) dX1_split_11 rfl 3 rfl ?_
    refine g_istore (pc := 12) (lv' := [(4, .int p1), (3, .int x2), (0, .ref (gad γ 10)), (1, .int p0), (2, .int p1)]) dX1_split_12 (by decide) rfl ?_
    refine g_iconst (pc := 14) (v := 0) dX1_split_14 (by decide) ?_
    refine g_istore (pc := 15) (lv' := [(5, .int 0), (4, .int p1), (3, .int x2), (0, .ref (gad γ 10)), (1, .int p0), (2, .int p1)]) dX1_split_15 (by decide) rfl ?_
    exact g_sub [3, 4, 5, 2, 1, 0] rfl (glp_X1_split_17 γ FU p0 p1 x2 p1 0 h1)
  · exact g_return (pc := 10) dX1_split_10 rfl rfl
def jb_X1_part_23  (s0 : Int32) (h : Hst) : Option (Int32 × Hst) :=
  (some (s0, h))
def jb_X1_part_22   (h : Hst) : Option (Int32 × Hst) :=
  (jb_X1_part_23 0 h)
def f_X1_part (p0 : Int32) (h : Hst) : Option (Int32 × Hst) :=
  (if p0 < 0 then
    (jb_X1_part_22 h)
  else
    (if 5 ≤ p0 then
      (jb_X1_part_22 h)
    else
      gck p0 5 ((jb_X1_part_23 (h.1 11 p0.toNatClampNeg) h))))
set_option maxRecDepth 20000 in
theorem gjb_X1_part_23 (γ : Gv)  (s0 : Int32) (h : Hst) : G γ RX1 cX1_part 2 (some .int) [] vI 0 0 23 [] [.int s0] h (jb_X1_part_23 s0 h) := by
  unfold jb_X1_part_23
  exact g_ireturn (pc := 23) (ty := .int) dX1_part_23 rfl rfl rfl
set_option maxRecDepth 20000 in
theorem gjb_X1_part_22 (γ : Gv)   (h : Hst) : G γ RX1 cX1_part 2 (some .int) [] vI 0 0 22 [] [] h (jb_X1_part_22 h) := by
  unfold jb_X1_part_22
  refine g_iconst (pc := 22) (v := 0) dX1_part_22 (by decide) ?_
  exact gjb_X1_part_23 γ 0 h
set_option maxRecDepth 20000 in
theorem ge_X1_part (γ : Gv) (p0 : Int32) (h : Hst) : G γ RX1 cX1_part 2 (some .int) [] vI 0 0 0 (lv_args 0 [.ref (gad γ 10), .int p0]) [] h (f_X1_part p0 h) := by
  show G γ RX1 cX1_part 2 (some .int) [] vI 0 0 0 [(0, .ref (gad γ 10)), (1, .int p0)] [] h (f_X1_part p0 h)
  unfold f_X1_part
  refine g_iload_n (pc := 0) dX1_part_0 rfl 1 rfl ?_
  refine g_if_lt (pc := 1) (tgt := 22) dX1_part_1 (by decide) ?_ ?_
  · exact g_sub [] rfl (gjb_X1_part_22 γ h)
  · refine g_iload_n (pc := 4) dX1_part_4 rfl 1 rfl ?_
    refine g_aload_n (pc := 5) dX1_part_5 rfl 0 rfl ?_
    refine gf_RX1_15_10 (pc := 6) dX1_part_6 ?_
    refine g_alen (pc := 9) (n := 0) (v := 5) 11 0 (gat_11 _ _) rfl rfl dX1_part_9 ?_
    refine g_icmp_ge (pc := 10) (tgt := 22) dX1_part_10 (by decide) ?_ ?_
    · exact g_sub [] rfl (gjb_X1_part_22 γ h)
    · refine g_aload_n (pc := 13) dX1_part_13 rfl 0 rfl ?_
      refine gf_RX1_15_10 (pc := 14) dX1_part_14 ?_
      refine g_iload_n (pc := 17) dX1_part_17 rfl 1 rfl ?_
      refine g_iald (pc := 18) 11 (gat_11 _ _) dX1_part_18 ?_
      refine g_goto (pc := 19) (tgt := 23) dX1_part_19 (by decide) ?_
      exact g_sub [] rfl (gjb_X1_part_23 γ (h.1 11 p0.toNatClampNeg) h)
def f_X5_add_4 (p0 : Int32) (p1 : Int32) (p2 : Int32) (h : Hst) : Option (Hst) :=
  gb (f_X5_get_4 p0 p1 h) fun x2 h1 =>
  gbv (f_X5_put_4 p0 p1 (x2 + p2) h1) fun h3 =>
  (some h3)
set_option maxRecDepth 20000 in
theorem ge_X5_add_4 (γ : Gv) (p0 : Int32) (p1 : Int32) (p2 : Int32) (h : Hst) : G γ RX5 cX5_add 4 none [] vV 1 0 0 (lv_args 0 [.ref (gad γ 4), .int p0, .int p1, .int p2]) [] h (f_X5_add_4 p0 p1 p2 h) := by
  show G γ RX5 cX5_add 4 none [] vV 1 0 0 [(0, .ref (gad γ 4)), (1, .int p0), (2, .int p1), (3, .int p2)] [] h (f_X5_add_4 p0 p1 p2 h)
  unfold f_X5_add_4
  refine g_aload_n (pc := 0) dX5_add_0 rfl 0 rfl ?_
  refine g_iload_n (pc := 1) dX5_add_1 rfl 1 rfl ?_
  refine g_iload_n (pc := 2) dX5_add_2 rfl 2 rfl ?_
  refine g_aload_n (pc := 3) dX5_add_3 rfl 0 rfl ?_
  refine g_iload_n (pc := 4) dX5_add_4 rfl 1 rfl ?_
  refine g_iload_n (pc := 5) dX5_add_5 rfl 2 rfl ?_
  refine g_cI (pc := 6) (st := [.int p1, .int p0, .ref (gad γ 4)]) (fun r hr => gRunV (As := [.int p0, .int p1]) 4 (ge_X5_get_4 γ p0 p1 h) hr wv_RX5_20 rfl (Nat.le_of_ble_eq_true rfl) (gat_4 _ _) rfl rfl (Nat.le_of_ble_eq_true rfl) (Nat.le_of_ble_eq_true rfl) dX5_add_6) (fun x2 h1 => ?_)
  refine g_iload_n (pc := 9) dX5_add_9 rfl 3 rfl ?_
  refine g_iadd (pc := 10) dX5_add_10 ?_
  refine g_cV (pc := 11) (st := []) (fun r hr => gRunV (As := [.int p0, .int p1, .int (x2 + p2)]) 4 (ge_X5_put_4 γ p0 p1 (x2 + p2) h1) hr wv_RX5_24 rfl (Nat.le_of_ble_eq_true rfl) (gat_4 _ _) rfl rfl (Nat.le_of_ble_eq_true rfl) (Nat.le_of_ble_eq_true rfl) dX5_add_11) (fun h3 => ?_)
  exact g_return (pc := 14) dX5_add_14 rfl rfl
def lp_X1_takeOut_8 : Nat → Int32 → Int32 → Hst → Option (Hst)
  | 0, _, _, _ => none
  | n + 1, a1, a3, h =>
    (if 5 ≤ a3 then
      (some h)
    else
      gb (f_X1_part a3 h) fun x2 h1 =>
      gbv (f_X5_add_4 a1 (2 + a3) (-x2) h1) fun h3 =>
      ((lp_X1_takeOut_8 n) a1 (a3 + 1) h3))
def f_X1_takeOut (p0 : Int32) (p1 : Int32) (h : Hst) : Option (Hst) :=
  gbv (f_X1_split p0 p1 h) fun h1 =>
  (lp_X1_takeOut_8 FU p0 0 h1)
set_option maxRecDepth 20000 in
theorem glp_X1_takeOut_8 (γ : Gv)  : ∀ (n : Nat) (a1 : Int32) (a3 : Int32) (h : Hst), G γ RX1 cX1_takeOut 4 none [] vV 3 0 8 [(0, .ref (gad γ 10)), (1, .int a1), (3, .int a3)] [] h (lp_X1_takeOut_8 n a1 a3 h) := by
  intro n
  induction n with
  | zero => intro a1 a3 h; exact g_none
  | succ n ih =>
    intro a1 a3 h
    rw [lp_X1_takeOut_8]
    refine g_iload_n (pc := 8) dX1_takeOut_8 rfl 2 rfl ?_
    refine g_iconst (pc := 9) (v := 5) dX1_takeOut_9 (by decide) ?_
    refine g_icmp_ge (pc := 10) (tgt := 39) dX1_takeOut_10 (by decide) ?_ ?_
    · exact g_return (pc := 39) dX1_takeOut_39 rfl rfl
    · refine g_aload_n (pc := 13) dX1_takeOut_13 rfl 0 rfl ?_
      refine gf_RX1_9_10 (pc := 14) dX1_takeOut_14 ?_
      refine gf_RX1_22_1 (pc := 17) dX1_takeOut_17 ?_
      refine g_iload_n (pc := 20) dX1_takeOut_20 rfl 1 rfl ?_
      refine g_iconst (pc := 21) (v := 2) dX1_takeOut_21 (by decide) ?_
      refine g_iload_n (pc := 22) dX1_takeOut_22 rfl 2 rfl ?_
      refine g_iadd (pc := 23) dX1_takeOut_23 ?_
      refine g_aload_n (pc := 24) dX1_takeOut_24 rfl 0 rfl ?_
      refine g_iload_n (pc := 25) dX1_takeOut_25 rfl 2 rfl ?_
      refine g_cI (pc := 26) (st := [.int (2 + a3), .int a1, .ref (gad γ 4)]) (fun r hr => gRunV (As := [.int a3]) 10 (ge_X1_part γ a3 h) hr wv_RX1_57 rfl (Nat.le_of_ble_eq_true rfl) (gat_10 _ _) rfl rfl (Nat.le_of_ble_eq_true rfl) (Nat.le_of_ble_eq_true rfl) dX1_takeOut_26) (fun x2 h1 => ?_)
      refine g_ineg (pc := 29) dX1_takeOut_29 ?_
      refine g_cV (pc := 30) (st := []) (fun r hr => gRunV (As := [.int a1, .int (2 + a3), .int (-x2)]) 4 (ge_X5_add_4 γ a1 (2 + a3) (-x2) h1) hr wv_RX1_50 rfl (Nat.le_of_ble_eq_true rfl) (gat_4 _ _) rfl rfl (Nat.le_of_ble_eq_true rfl) (Nat.le_of_ble_eq_true rfl) dX1_takeOut_30) (fun h3 => ?_)
      refine g_iinc (pc := 33) (q := 2) (v := a3 + 1) (lv' := [(3, .int (a3 + 1)), (0, .ref (gad γ 10)), (1, .int a1)]) dX1_takeOut_33 rfl rfl (by decide) rfl ?_
      refine g_goto (pc := 36) (tgt := 8) dX1_takeOut_36 (by decide) ?_
      exact g_sub [1, 2, 0] rfl (ih a1 (a3 + 1) h3)
set_option maxRecDepth 20000 in
theorem ge_X1_takeOut (γ : Gv) (p0 : Int32) (p1 : Int32) (h : Hst) : G γ RX1 cX1_takeOut 4 none [] vV 3 0 0 (lv_args 0 [.ref (gad γ 10), .int p0, .int p1]) [] h (f_X1_takeOut p0 p1 h) := by
  show G γ RX1 cX1_takeOut 4 none [] vV 3 0 0 [(0, .ref (gad γ 10)), (1, .int p0), (2, .int p1)] [] h (f_X1_takeOut p0 p1 h)
  unfold f_X1_takeOut
  refine g_aload_n (pc := 0) dX1_takeOut_0 rfl 0 rfl ?_
  refine g_iload_n (pc := 1) dX1_takeOut_1 rfl 1 rfl ?_
  refine g_iload_n (pc := 2) dX1_takeOut_2 rfl 2 rfl ?_
  refine g_cV (pc := 3) (st := []) (fun r hr => gRunV (As := [.int p0, .int p1]) 10 (ge_X1_split γ p0 p1 h) hr wv_RX1_53 rfl (Nat.le_of_ble_eq_true rfl) (gat_10 _ _) rfl rfl (Nat.le_of_ble_eq_true rfl) (Nat.le_of_ble_eq_true rfl) dX1_takeOut_3) (fun h1 => ?_)
  refine g_iconst (pc := 6) (v := 0) dX1_takeOut_6 (by decide) ?_
  refine g_istore_n (pc := 7) (lv' := [(3, .int 0), (0, .ref (gad γ 10)), (1, .int p0), (2, .int p1)]) dX1_takeOut_7 rfl (by decide) rfl ?_
  exact g_sub [1, 2, 0] rfl (glp_X1_takeOut_8 γ FU p0 0 h1)
def jb_X1_pour_41   (h : Hst) : Option (Hst) :=
  (some h)
def f_X1_pour (p0 : Int32) (p1 : Int32) (p2 : Int32) (p3 : Int32) (h : Hst) : Option (Hst) :=
  (if p2 ≤ 0 then
    (jb_X1_pour_41 h)
  else
    gb (f_X1_gradeOf p0 h) fun x2 h1 =>
    gbv (f_X5_put_4 p0 1 (if x2 < p3 then p3 else x2) h1) fun h3 =>
    gbv (f_X5_add_4 p0 (2 + p1) p2 h3) fun h4 =>
    (jb_X1_pour_41 h4))
set_option maxRecDepth 20000 in
theorem gjb_X1_pour_41 (γ : Gv)   (h : Hst) : G γ RX1 cX1_pour 5 none [] vV 3 0 41 [] [] h (jb_X1_pour_41 h) := by
  unfold jb_X1_pour_41
  exact g_return (pc := 41) dX1_pour_41 rfl rfl
set_option maxRecDepth 20000 in
theorem ge_X1_pour (γ : Gv) (p0 : Int32) (p1 : Int32) (p2 : Int32) (p3 : Int32) (h : Hst) : G γ RX1 cX1_pour 5 none [] vV 3 0 0 (lv_args 0 [.ref (gad γ 10), .int p0, .int p1, .int p2, .int p3]) [] h (f_X1_pour p0 p1 p2 p3 h) := by
  show G γ RX1 cX1_pour 5 none [] vV 3 0 0 [(0, .ref (gad γ 10)), (1, .int p0), (2, .int p1), (3, .int p2), (4, .int p3)] [] h (f_X1_pour p0 p1 p2 p3 h)
  unfold f_X1_pour
  refine g_iload_n (pc := 0) dX1_pour_0 rfl 3 rfl ?_
  refine g_if_le (pc := 1) (tgt := 41) dX1_pour_1 (by decide) ?_ ?_
  · exact g_sub [] rfl (gjb_X1_pour_41 γ h)
  · refine g_aload_n (pc := 4) dX1_pour_4 rfl 0 rfl ?_
    refine gf_RX1_9_10 (pc := 5) dX1_pour_5 ?_
    refine gf_RX1_22_1 (pc := 8) dX1_pour_8 ?_
    refine g_iload_n (pc := 11) dX1_pour_11 rfl 1 rfl ?_
    refine g_iconst (pc := 12) (v := 1) dX1_pour_12 (by decide) ?_
    refine g_aload_n (pc := 13) dX1_pour_13 rfl 0 rfl ?_
    refine g_iload_n (pc := 14) dX1_pour_14 rfl 1 rfl ?_
    refine g_cI (pc := 15) (st := [.int 1, .int p0, .ref (gad γ 4)]) (fun r hr => gRunV (As := [.int p0]) 10 (ge_X1_gradeOf γ p0 h) hr wv_RX1_38 rfl (Nat.le_of_ble_eq_true rfl) (gat_10 _ _) rfl rfl (Nat.le_of_ble_eq_true rfl) (Nat.le_of_ble_eq_true rfl) dX1_pour_15) (fun x2 h1 => ?_)
    refine g_iload (pc := 18) dX1_pour_18 4 rfl ?_
    refine g_mmax (pc := 20) wk_RX1_41 wm_max1 wm_2 wm_max3 (Nat.le_of_ble_eq_true rfl) (Nat.le_of_ble_eq_true rfl) dX1_pour_20 ?_
    refine g_cV (pc := 23) (st := []) (fun r hr => gRunV (As := [.int p0, .int 1, .int (if x2 < p3 then p3 else x2)]) 4 (ge_X5_put_4 γ p0 1 (if x2 < p3 then p3 else x2) h1) hr wv_RX1_46 rfl (Nat.le_of_ble_eq_true rfl) (gat_4 _ _) rfl rfl (Nat.le_of_ble_eq_true rfl) (Nat.le_of_ble_eq_true rfl) dX1_pour_23) (fun h3 => ?_)
    refine g_aload_n (pc := 26) dX1_pour_26 rfl 0 rfl ?_
    refine gf_RX1_9_10 (pc := 27) dX1_pour_27 ?_
    refine gf_RX1_22_1 (pc := 30) dX1_pour_30 ?_
    refine g_iload_n (pc := 33) dX1_pour_33 rfl 1 rfl ?_
    refine g_iconst (pc := 34) (v := 2) dX1_pour_34 (by decide) ?_
    refine g_iload_n (pc := 35) dX1_pour_35 rfl 2 rfl ?_
    refine g_iadd (pc := 36) dX1_pour_36 ?_
    refine g_iload_n (pc := 37) dX1_pour_37 rfl 3 rfl ?_
    refine g_cV (pc := 38) (st := []) (fun r hr => gRunV (As := [.int p0, .int (2 + p1), .int p2]) 4 (ge_X5_add_4 γ p0 (2 + p1) p2 h3) hr wv_RX1_50 rfl (Nat.le_of_ble_eq_true rfl) (gat_4 _ _) rfl rfl (Nat.le_of_ble_eq_true rfl) (Nat.le_of_ble_eq_true rfl) dX1_pour_38) (fun h4 => ?_)
    exact g_sub [] rfl (gjb_X1_pour_41 γ h4)
def jb_X6_move_78   (h : Hst) : Option (Int32 × Hst) :=
  none
def lp_X6_move_107 : Nat → Int32 → Int32 → Int32 → Hst → Option (Int32 × Hst)
  | 0, _, _, _, _ => none
  | n + 1, a2, a5, a6, h =>
    (if 5 ≤ a6 then
      gb (f_X1_oilOf a2 h) fun x2 h1 =>
      (some (x2, h1))
    else
      gb (f_X1_part a6 h) fun x4 h3 =>
      gbv (f_X1_pour a2 a6 x4 a5 h3) fun h5 =>
      ((lp_X6_move_107 n) a2 a5 (a6 + 1) h5))
def f_X6_move (p0 : Int32) (p1 : Int32) (p2 : Int32) (p3 : Int32) (h : Hst) : Option (Int32 × Hst) :=
  gbv (f_X6_checkTank p0 h) fun h1 =>
  gbv (f_X6_checkTank p1 h1) fun h2 =>
  (if p0 = p1 then
    none
  else
    gbv (f_X6_checkOil p2 h2) fun h3 =>
    gb (f_X1_gradeOf p0 h3) fun x5 h4 =>
    gb (f_X1_oilOf p0 h4) fun x7 h6 =>
    (if x7 < p2 then
      (jb_X6_move_78 h6)
    else
      gb (f_X1_roomOf p1 h6) fun x9 h8 =>
      (if x9 < p2 then
        (jb_X6_move_78 h8)
      else
        gb (f_X1_admits p1 x5 p3 h8) fun x11 h10 =>
        (if x11 = 0 then
          (jb_X6_move_78 h10)
        else
          gbv (f_X0_save h10) fun h12 =>
          gbv (f_X1_takeOut p0 p2 h12) fun h13 =>
          (lp_X6_move_107 FU p1 x5 0 h13)))))
set_option maxRecDepth 20000 in
theorem gjb_X6_move_78 (γ : Gv)   (h : Hst) : G γ RX6 cX6_move 7 (some .int) [] vI 4 0 78 [] [] h (jb_X6_move_78 h) := by
  unfold jb_X6_move_78
  exact g_none
set_option maxRecDepth 20000 in
theorem glp_X6_move_107 (γ : Gv)  : ∀ (n : Nat) (a2 : Int32) (a5 : Int32) (a6 : Int32) (h : Hst), G γ RX6 cX6_move 7 (some .int) [] vI 4 0 107 [(0, .ref (gad γ 0)), (2, .int a2), (5, .int a5), (6, .int a6)] [] h (lp_X6_move_107 n a2 a5 a6 h) := by
  intro n
  induction n with
  | zero => intro a2 a5 a6 h; exact g_none
  | succ n ih =>
    intro a2 a5 a6 h
    rw [lp_X6_move_107]
    refine g_iload (pc := 107) dX6_move_107 3 rfl ?_
    refine g_iconst (pc := 109) (v := 5) dX6_move_109 (by decide) ?_
    refine g_icmp_ge (pc := 110) (tgt := 140) dX6_move_110 (by decide) ?_ ?_
    · refine g_aload_n (pc := 140) dX6_move_140 rfl 0 rfl ?_
      refine gf_RX6_21_0 (pc := 141) dX6_move_141 ?_
      refine g_iload_n (pc := 144) dX6_move_144 rfl 1 rfl ?_
      refine g_cI (pc := 145) (st := []) (fun r hr => gRunV (As := [.int a2]) 10 (ge_X1_oilOf γ a2 h) hr wv_RX6_203 rfl (Nat.le_of_ble_eq_true rfl) (gat_10 _ _) rfl rfl (Nat.le_of_ble_eq_true rfl) (Nat.le_of_ble_eq_true rfl) dX6_move_145) (fun x2 h1 => ?_)
      exact g_ireturn (pc := 148) (ty := .int) dX6_move_148 rfl rfl rfl
    · refine g_aload_n (pc := 113) dX6_move_113 rfl 0 rfl ?_
      refine gf_RX6_21_0 (pc := 114) dX6_move_114 ?_
      refine g_iload_n (pc := 117) dX6_move_117 rfl 1 rfl ?_
      refine g_iload (pc := 118) dX6_move_118 3 rfl ?_
      refine g_aload_n (pc := 120) dX6_move_120 rfl 0 rfl ?_
      refine gf_RX6_21_0 (pc := 121) dX6_move_121 ?_
      refine g_iload (pc := 124) dX6_move_124 3 rfl ?_
      refine g_cI (pc := 126) (st := [.int a6, .int a2, .ref (gad γ 10)]) (fun r hr => gRunV (As := [.int a6]) 10 (ge_X1_part γ a6 h) hr wv_RX6_211 rfl (Nat.le_of_ble_eq_true rfl) (gat_10 _ _) rfl rfl (Nat.le_of_ble_eq_true rfl) (Nat.le_of_ble_eq_true rfl) dX6_move_126) (fun x4 h3 => ?_)
      refine g_iload (pc := 129) dX6_move_129 2 rfl ?_
      refine g_cV (pc := 131) (st := []) (fun r hr => gRunV (As := [.int a2, .int a6, .int x4, .int a5]) 10 (ge_X1_pour γ a2 a6 x4 a5 h3) hr wv_RX6_190 rfl (Nat.le_of_ble_eq_true rfl) (gat_10 _ _) rfl rfl (Nat.le_of_ble_eq_true rfl) (Nat.le_of_ble_eq_true rfl) dX6_move_131) (fun h5 => ?_)
      refine g_iinc (pc := 134) (q := 3) (v := a6 + 1) (lv' := [(6, .int (a6 + 1)), (0, .ref (gad γ 0)), (2, .int a2), (5, .int a5)]) dX6_move_134 rfl rfl (by decide) rfl ?_
      refine g_goto (pc := 137) (tgt := 107) dX6_move_137 (by decide) ?_
      exact g_sub [1, 2, 3, 0] rfl (ih a2 a5 (a6 + 1) h5)
set_option maxRecDepth 20000 in
theorem ge_X6_move (γ : Gv) (p0 : Int32) (p1 : Int32) (p2 : Int32) (p3 : Int32) (h : Hst) : G γ RX6 cX6_move 7 (some .int) [] vI 4 0 0 (lv_args 0 [.ref (gad γ 0), .int p0, .int p1, .int p2, .int p3]) [] h (f_X6_move p0 p1 p2 p3 h) := by
  show G γ RX6 cX6_move 7 (some .int) [] vI 4 0 0 [(0, .ref (gad γ 0)), (1, .int p0), (2, .int p1), (3, .int p2), (4, .int p3)] [] h (f_X6_move p0 p1 p2 p3 h)
  unfold f_X6_move
  refine g_aload_n (pc := 0) dX6_move_0 rfl 0 rfl ?_
  refine g_iload_n (pc := 1) dX6_move_1 rfl 1 rfl ?_
  refine g_cV (pc := 2) (st := []) (fun r hr => gRunV (As := [.int p0]) 0 (ge_X6_checkTank γ p0 h) hr wv_RX6_138 rfl (Nat.le_of_ble_eq_true rfl) (gat_0 _ _) rfl rfl (Nat.le_of_ble_eq_true rfl) (Nat.le_of_ble_eq_true rfl) dX6_move_2) (fun h1 => ?_)
  refine g_aload_n (pc := 5) dX6_move_5 rfl 0 rfl ?_
  refine g_iload_n (pc := 6) dX6_move_6 rfl 2 rfl ?_
  refine g_cV (pc := 7) (st := []) (fun r hr => gRunV (As := [.int p1]) 0 (ge_X6_checkTank γ p1 h1) hr wv_RX6_138 rfl (Nat.le_of_ble_eq_true rfl) (gat_0 _ _) rfl rfl (Nat.le_of_ble_eq_true rfl) (Nat.le_of_ble_eq_true rfl) dX6_move_7) (fun h2 => ?_)
  refine g_iload_n (pc := 10) dX6_move_10 rfl 1 rfl ?_
  refine g_iload_n (pc := 11) dX6_move_11 rfl 2 rfl ?_
  refine g_icmp_ne (pc := 12) (tgt := 25) dX6_move_12 (by decide) ?_ ?_
  · refine g_iload_n (pc := 25) dX6_move_25 rfl 3 rfl ?_
    refine g_cV (pc := 26) (st := []) (fun r hr => gRunS (As := [.int p2]) (ge_X6_checkOil γ p2 h2) hr wv_RX6_197 rfl (Nat.le_of_ble_eq_true rfl) rfl (Nat.le_of_ble_eq_true rfl) (Nat.le_of_ble_eq_true rfl) dX6_move_26) (fun h3 => ?_)
    refine g_aload_n (pc := 29) dX6_move_29 rfl 0 rfl ?_
    refine gf_RX6_21_0 (pc := 30) dX6_move_30 ?_
    refine g_iload_n (pc := 33) dX6_move_33 rfl 1 rfl ?_
    refine g_cI (pc := 34) (st := []) (fun r hr => gRunV (As := [.int p0]) 10 (ge_X1_gradeOf γ p0 h3) hr wv_RX6_216 rfl (Nat.le_of_ble_eq_true rfl) (gat_10 _ _) rfl rfl (Nat.le_of_ble_eq_true rfl) (Nat.le_of_ble_eq_true rfl) dX6_move_34) (fun x5 h4 => ?_)
    refine g_istore (pc := 37) (lv' := [(5, .int x5), (0, .ref (gad γ 0)), (1, .int p0), (2, .int p1), (3, .int p2), (4, .int p3)]) dX6_move_37 (by decide) rfl ?_
    refine g_aload_n (pc := 39) dX6_move_39 rfl 1 rfl ?_
    refine gf_RX6_21_0 (pc := 40) dX6_move_40 ?_
    refine g_iload_n (pc := 43) dX6_move_43 rfl 2 rfl ?_
    refine g_cI (pc := 44) (st := []) (fun r hr => gRunV (As := [.int p0]) 10 (ge_X1_oilOf γ p0 h4) hr wv_RX6_203 rfl (Nat.le_of_ble_eq_true rfl) (gat_10 _ _) rfl rfl (Nat.le_of_ble_eq_true rfl) (Nat.le_of_ble_eq_true rfl) dX6_move_44) (fun x7 h6 => ?_)
    refine g_iload_n (pc := 47) dX6_move_47 rfl 4 rfl ?_
    refine g_icmp_lt (pc := 48) (tgt := 78) dX6_move_48 (by decide) ?_ ?_
    · exact g_sub [] rfl (gjb_X6_move_78 γ h6)
    · refine g_aload_n (pc := 51) dX6_move_51 rfl 1 rfl ?_
      refine gf_RX6_21_0 (pc := 52) dX6_move_52 ?_
      refine g_iload_n (pc := 55) dX6_move_55 rfl 3 rfl ?_
      refine g_cI (pc := 56) (st := []) (fun r hr => gRunV (As := [.int p1]) 10 (ge_X1_roomOf γ p1 h6) hr wv_RX6_219 rfl (Nat.le_of_ble_eq_true rfl) (gat_10 _ _) rfl rfl (Nat.le_of_ble_eq_true rfl) (Nat.le_of_ble_eq_true rfl) dX6_move_56) (fun x9 h8 => ?_)
      refine g_iload_n (pc := 59) dX6_move_59 rfl 4 rfl ?_
      refine g_icmp_lt (pc := 60) (tgt := 78) dX6_move_60 (by decide) ?_ ?_
      · exact g_sub [] rfl (gjb_X6_move_78 γ h8)
      · refine g_aload_n (pc := 63) dX6_move_63 rfl 1 rfl ?_
        refine gf_RX6_21_0 (pc := 64) dX6_move_64 ?_
        refine g_iload_n (pc := 67) dX6_move_67 rfl 3 rfl ?_
        refine g_iload (pc := 68) dX6_move_68 0 rfl ?_
        refine g_iload (pc := 70) dX6_move_70 5 rfl ?_
        refine g_cI (pc := 72) (st := []) (fun r hr => gRunV (As := [.int p1, .int x5, .int p3]) 10 (ge_X1_admits γ p1 x5 p3 h8) hr wv_RX6_222 rfl (Nat.le_of_ble_eq_true rfl) (gat_10 _ _) rfl rfl (Nat.le_of_ble_eq_true rfl) (Nat.le_of_ble_eq_true rfl) dX6_move_72) (fun x11 h10 => ?_)
        refine g_if_ne (pc := 75) (tgt := 88) dX6_move_75 (by decide) ?_ ?_
        · refine g_aload_n (pc := 88) dX6_move_88 rfl 1 rfl ?_
          refine gf_RX6_12_0 (pc := 89) dX6_move_89 ?_
          refine g_cV (pc := 92) (st := []) (fun r hr => gRunV (As := []) 1 (ge_X0_save γ h10) hr wv_RX6_64 rfl (Nat.le_of_ble_eq_true rfl) (gat_1 _ _) rfl rfl (Nat.le_of_ble_eq_true rfl) (Nat.le_of_ble_eq_true rfl) dX6_move_92) (fun h12 => ?_)
          refine g_aload_n (pc := 95) dX6_move_95 rfl 1 rfl ?_
          refine gf_RX6_21_0 (pc := 96) dX6_move_96 ?_
          refine g_iload_n (pc := 99) dX6_move_99 rfl 2 rfl ?_
          refine g_iload_n (pc := 100) dX6_move_100 rfl 4 rfl ?_
          refine g_cV (pc := 101) (st := []) (fun r hr => gRunV (As := [.int p0, .int p2]) 10 (ge_X1_takeOut γ p0 p2 h12) hr wv_RX6_208 rfl (Nat.le_of_ble_eq_true rfl) (gat_10 _ _) rfl rfl (Nat.le_of_ble_eq_true rfl) (Nat.le_of_ble_eq_true rfl) dX6_move_101) (fun h13 => ?_)
          refine g_iconst (pc := 104) (v := 0) dX6_move_104 (by decide) ?_
          refine g_istore (pc := 105) (lv' := [(6, .int 0), (5, .int x5), (0, .ref (gad γ 0)), (1, .int p0), (2, .int p1), (3, .int p2), (4, .int p3)]) dX6_move_105 (by decide) rfl ?_
          exact g_sub [2, 4, 1, 0] rfl (glp_X6_move_107 γ FU p1 x5 0 h13)
        · exact g_sub [] rfl (gjb_X6_move_78 γ h10)
  · exact g_none
def jb_X6_checkGrower_19   (h : Hst) : Option (Hst) :=
  none
def f_X6_checkGrower (p0 : Int32) (h : Hst) : Option (Hst) :=
  (if p0 < 0 then
    (jb_X6_checkGrower_19 h)
  else
    gb (f_X3_get_7 0 h) fun x2 h1 =>
    (if p0 < x2 then
      (some h1)
    else
      (jb_X6_checkGrower_19 h1)))
set_option maxRecDepth 20000 in
theorem gjb_X6_checkGrower_19 (γ : Gv)   (h : Hst) : G γ RX6 cX6_checkGrower 2 none [] vV 1 0 19 [] [] h (jb_X6_checkGrower_19 h) := by
  unfold jb_X6_checkGrower_19
  exact g_none
set_option maxRecDepth 20000 in
theorem ge_X6_checkGrower (γ : Gv) (p0 : Int32) (h : Hst) : G γ RX6 cX6_checkGrower 2 none [] vV 1 0 0 (lv_args 0 [.ref (gad γ 0), .int p0]) [] h (f_X6_checkGrower p0 h) := by
  show G γ RX6 cX6_checkGrower 2 none [] vV 1 0 0 [(0, .ref (gad γ 0)), (1, .int p0)] [] h (f_X6_checkGrower p0 h)
  unfold f_X6_checkGrower
  refine g_iload_n (pc := 0) dX6_checkGrower_0 rfl 1 rfl ?_
  refine g_if_lt (pc := 1) (tgt := 19) dX6_checkGrower_1 (by decide) ?_ ?_
  · exact g_sub [] rfl (gjb_X6_checkGrower_19 γ h)
  · refine g_iload_n (pc := 4) dX6_checkGrower_4 rfl 1 rfl ?_
    refine g_aload_n (pc := 5) dX6_checkGrower_5 rfl 0 rfl ?_
    refine gf_RX6_12_0 (pc := 6) dX6_checkGrower_6 ?_
    refine gf_RX6_47_1 (pc := 9) dX6_checkGrower_9 ?_
    refine g_iconst (pc := 12) (v := 0) dX6_checkGrower_12 (by decide) ?_
    refine g_cI (pc := 13) (st := [.int p0]) (fun r hr => gRunV (As := [.int 0]) 7 (ge_X3_get_7 γ 0 h) hr wv_RX6_51 rfl (Nat.le_of_ble_eq_true rfl) (gat_7 _ _) rfl rfl (Nat.le_of_ble_eq_true rfl) (Nat.le_of_ble_eq_true rfl) dX6_checkGrower_13) (fun x2 h1 => ?_)
    refine g_icmp_lt (pc := 16) (tgt := 30) dX6_checkGrower_16 (by decide) ?_ ?_
    · exact g_return (pc := 30) dX6_checkGrower_30 rfl rfl
    · exact g_sub [] rfl (gjb_X6_checkGrower_19 γ h1)
def jb_X5_get_2_37  (s0 : Int32) (h : Hst) : Option (Int32 × Hst) :=
  (some (s0, h))
def jb_X5_get_2_36   (h : Hst) : Option (Int32 × Hst) :=
  (jb_X5_get_2_37 0 h)
def f_X5_get_2 (p0 : Int32) (p1 : Int32) (h : Hst) : Option (Int32 × Hst) :=
  gl ((0 + (p0 * 4)) + p1) fun x1 =>
  (if x1 < 0 then
    (jb_X5_get_2_36 h)
  else
    (if 553 ≤ x1 then
      (jb_X5_get_2_36 h)
    else
      gck x1 553 ((jb_X5_get_2_37 (h.1 8 x1.toNatClampNeg) h))))
set_option maxRecDepth 20000 in
theorem gjb_X5_get_2_37 (γ : Gv)  (s0 : Int32) (h : Hst) : G γ RX5 cX5_get 4 (some .int) [] vI 0 0 37 [] [.int s0] h (jb_X5_get_2_37 s0 h) := by
  unfold jb_X5_get_2_37
  exact g_ireturn (pc := 37) (ty := .int) dX5_get_37 rfl rfl rfl
set_option maxRecDepth 20000 in
theorem gjb_X5_get_2_36 (γ : Gv)   (h : Hst) : G γ RX5 cX5_get 4 (some .int) [] vI 0 0 36 [] [] h (jb_X5_get_2_36 h) := by
  unfold jb_X5_get_2_36
  refine g_iconst (pc := 36) (v := 0) dX5_get_36 (by decide) ?_
  exact gjb_X5_get_2_37 γ 0 h
set_option maxRecDepth 20000 in
theorem ge_X5_get_2 (γ : Gv) (p0 : Int32) (p1 : Int32) (h : Hst) : G γ RX5 cX5_get 4 (some .int) [] vI 0 0 0 (lv_args 0 [.ref (gad γ 2), .int p0, .int p1]) [] h (f_X5_get_2 p0 p1 h) := by
  show G γ RX5 cX5_get 4 (some .int) [] vI 0 0 0 [(0, .ref (gad γ 2)), (1, .int p0), (2, .int p1)] [] h (f_X5_get_2 p0 p1 h)
  unfold f_X5_get_2
  refine g_aload_n (pc := 0) dX5_get_0 rfl 0 rfl ?_
  refine gf_RX5_13_2 (pc := 1) dX5_get_1 ?_
  refine g_iload_n (pc := 4) dX5_get_4 rfl 1 rfl ?_
  refine g_aload_n (pc := 5) dX5_get_5 rfl 0 rfl ?_
  refine gf_RX5_17_2 (pc := 6) dX5_get_6 ?_
  refine g_imul (pc := 9) dX5_get_9 ?_
  refine g_iadd (pc := 10) dX5_get_10 ?_
  refine g_iload_n (pc := 11) dX5_get_11 rfl 2 rfl ?_
  refine g_iadd (pc := 12) dX5_get_12 ?_
  refine g_nmi (fun x1 => ?_)
  refine g_istore_n (pc := 13) (lv' := [(3, .int x1), (0, .ref (gad γ 2)), (1, .int p0), (2, .int p1)]) dX5_get_13 rfl (by decide) rfl ?_
  refine g_iload_n (pc := 14) dX5_get_14 rfl 0 rfl ?_
  refine g_if_lt (pc := 15) (tgt := 36) dX5_get_15 (by decide) ?_ ?_
  · exact g_sub [] rfl (gjb_X5_get_2_36 γ h)
  · refine g_iload_n (pc := 18) dX5_get_18 rfl 0 rfl ?_
    refine g_aload_n (pc := 19) dX5_get_19 rfl 1 rfl ?_
    refine gf_RX5_7_2 (pc := 20) dX5_get_20 ?_
    refine g_alen (pc := 23) (n := 0) (v := 553) 8 0 (gat_8 _ _) rfl rfl dX5_get_23 ?_
    refine g_icmp_ge (pc := 24) (tgt := 36) dX5_get_24 (by decide) ?_ ?_
    · exact g_sub [] rfl (gjb_X5_get_2_36 γ h)
    · refine g_aload_n (pc := 27) dX5_get_27 rfl 1 rfl ?_
      refine gf_RX5_7_2 (pc := 28) dX5_get_28 ?_
      refine g_iload_n (pc := 31) dX5_get_31 rfl 0 rfl ?_
      refine g_iald (pc := 32) 8 (gat_8 _ _) dX5_get_32 ?_
      refine g_goto (pc := 33) (tgt := 37) dX5_get_33 (by decide) ?_
      exact g_sub [] rfl (gjb_X5_get_2_37 γ (h.1 8 x1.toNatClampNeg) h)
