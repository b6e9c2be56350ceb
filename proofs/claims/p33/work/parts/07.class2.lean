def jb_X5_put_2_38   (h : Hst) : Option (Hst) :=
  (some h)
def f_X5_put_2 (p0 : Int32) (p1 : Int32) (p2 : Int32) (h : Hst) : Option (Hst) :=
  gl ((0 + (p0 * 4)) + p1) fun x1 =>
  (if x1 < 0 then
    (jb_X5_put_2_38 h)
  else
    (if 553 ≤ x1 then
      (jb_X5_put_2_38 h)
    else
      gck x1 553 (gl (hst h 8 x1.toNatClampNeg p2) fun h2 =>
      (jb_X5_put_2_38 h2))))
set_option maxRecDepth 20000 in
theorem gjb_X5_put_2_38 (γ : Gv)   (h : Hst) : G γ RX5 cX5_put 5 none [] vV 0 0 38 [] [] h (jb_X5_put_2_38 h) := by
  unfold jb_X5_put_2_38
  exact g_return (pc := 38) dX5_put_38 rfl rfl
set_option maxRecDepth 20000 in
theorem ge_X5_put_2 (γ : Gv) (p0 : Int32) (p1 : Int32) (p2 : Int32) (h : Hst) : G γ RX5 cX5_put 5 none [] vV 0 0 0 (lv_args 0 [.ref (gad γ 2), .int p0, .int p1, .int p2]) [] h (f_X5_put_2 p0 p1 p2 h) := by
  show G γ RX5 cX5_put 5 none [] vV 0 0 0 [(0, .ref (gad γ 2)), (1, .int p0), (2, .int p1), (3, .int p2)] [] h (f_X5_put_2 p0 p1 p2 h)
  unfold f_X5_put_2
  refine g_aload_n (pc := 0) dX5_put_0 rfl 0 rfl ?_
  refine gf_RX5_13_2 (pc := 1) dX5_put_1 ?_
  refine g_iload_n (pc := 4) dX5_put_4 rfl 1 rfl ?_
  refine g_aload_n (pc := 5) dX5_put_5 rfl 0 rfl ?_
  refine gf_RX5_17_2 (pc := 6) dX5_put_6 ?_
  refine g_imul (pc := 9) dX5_put_9 ?_
  refine g_iadd (pc := 10) dX5_put_10 ?_
  refine g_iload_n (pc := 11) dX5_put_11 rfl 2 rfl ?_
  refine g_iadd (pc := 12) dX5_put_12 ?_
  refine g_nmi (fun x1 => ?_)
  refine g_istore (pc := 13) (lv' := [(4, .int x1), (0, .ref (gad γ 2)), (1, .int p0), (2, .int p1), (3, .int p2)]) dX5_put_13 (by decide) rfl ?_
  refine g_iload (pc := 15) dX5_put_15 0 rfl ?_
  refine g_if_lt (pc := 17) (tgt := 38) dX5_put_17 (by decide) ?_ ?_
  · exact g_sub [] rfl (gjb_X5_put_2_38 γ h)
  · refine g_iload (pc := 20) dX5_put_20 0 rfl ?_
    refine g_aload_n (pc := 22) dX5_put_22 rfl 1 rfl ?_
    refine gf_RX5_7_2 (pc := 23) dX5_put_23 ?_
    refine g_alen (pc := 26) (n := 0) (v := 553) 8 0 (gat_8 _ _) rfl rfl dX5_put_26 ?_
    refine g_icmp_ge (pc := 27) (tgt := 38) dX5_put_27 (by decide) ?_ ?_
    · exact g_sub [] rfl (gjb_X5_put_2_38 γ h)
    · refine g_aload_n (pc := 30) dX5_put_30 rfl 1 rfl ?_
      refine gf_RX5_7_2 (pc := 31) dX5_put_31 ?_
      refine g_iload (pc := 34) dX5_put_34 0 rfl ?_
      refine g_iload_n (pc := 36) dX5_put_36 rfl 4 rfl ?_
      refine g_iast (pc := 37) 8 (gat_8 _ _) (gset_8 _ _ _) dX5_put_37 ?_
      refine g_nmh (fun h2 => ?_)
      exact g_sub [] rfl (gjb_X5_put_2_38 γ h2)
def f_X5_add_2 (p0 : Int32) (p1 : Int32) (p2 : Int32) (h : Hst) : Option (Hst) :=
  gb (f_X5_get_2 p0 p1 h) fun x2 h1 =>
  gbv (f_X5_put_2 p0 p1 (x2 + p2) h1) fun h3 =>
  (some h3)
set_option maxRecDepth 20000 in
theorem ge_X5_add_2 (γ : Gv) (p0 : Int32) (p1 : Int32) (p2 : Int32) (h : Hst) : G γ RX5 cX5_add 4 none [] vV 1 0 0 (lv_args 0 [.ref (gad γ 2), .int p0, .int p1, .int p2]) [] h (f_X5_add_2 p0 p1 p2 h) := by
  show G γ RX5 cX5_add 4 none [] vV 1 0 0 [(0, .ref (gad γ 2)), (1, .int p0), (2, .int p1), (3, .int p2)] [] h (f_X5_add_2 p0 p1 p2 h)
  unfold f_X5_add_2
  refine g_aload_n (pc := 0) dX5_add_0 rfl 0 rfl ?_
  refine g_iload_n (pc := 1) dX5_add_1 rfl 1 rfl ?_
  refine g_iload_n (pc := 2) dX5_add_2 rfl 2 rfl ?_
  refine g_aload_n (pc := 3) dX5_add_3 rfl 0 rfl ?_
  refine g_iload_n (pc := 4) dX5_add_4 rfl 1 rfl ?_
  refine g_iload_n (pc := 5) dX5_add_5 rfl 2 rfl ?_
  refine g_cI (pc := 6) (st := [.int p1, .int p0, .ref (gad γ 2)]) (fun r hr => gRunV (As := [.int p0, .int p1]) 2 (ge_X5_get_2 γ p0 p1 h) hr wv_RX5_20 rfl (Nat.le_of_ble_eq_true rfl) (gat_2 _ _) rfl rfl (Nat.le_of_ble_eq_true rfl) (Nat.le_of_ble_eq_true rfl) dX5_add_6) (fun x2 h1 => ?_)
  refine g_iload_n (pc := 9) dX5_add_9 rfl 3 rfl ?_
  refine g_iadd (pc := 10) dX5_add_10 ?_
  refine g_cV (pc := 11) (st := []) (fun r hr => gRunV (As := [.int p0, .int p1, .int (x2 + p2)]) 2 (ge_X5_put_2 γ p0 p1 (x2 + p2) h1) hr wv_RX5_24 rfl (Nat.le_of_ble_eq_true rfl) (gat_2 _ _) rfl rfl (Nat.le_of_ble_eq_true rfl) (Nat.le_of_ble_eq_true rfl) dX5_add_11) (fun h3 => ?_)
  exact g_return (pc := 14) dX5_add_14 rfl rfl
def jb_X6_draw_42   (h : Hst) : Option (Int32 × Hst) :=
  none
def lp_X6_draw_71 : Nat → Int32 → Int32 → Int32 → Hst → Option (Int32 × Hst)
  | 0, _, _, _, _ => none
  | n + 1, a1, a3, a4, h =>
    (if 5 ≤ a4 then
      gbv (f_X5_add_2 a1 0 (-a3) h) fun h1 =>
      gbv (f_X5_add_2 a1 1 a3 h1) fun h2 =>
      gb (f_X5_get_2 a1 0 h2) fun x4 h3 =>
      (some (x4, h3))
    else
      gb (f_X1_part a4 h) fun x6 h5 =>
      gbv (f_X5_add_5 a4 2 x6 h5) fun h7 =>
      ((lp_X6_draw_71 n) a1 a3 (a4 + 1) h7))
def f_X6_draw (p0 : Int32) (p1 : Int32) (p2 : Int32) (h : Hst) : Option (Int32 × Hst) :=
  gbv (f_X6_checkGrower p0 h) fun h1 =>
  gbv (f_X6_checkTank p1 h1) fun h2 =>
  gbv (f_X6_checkOil p2 h2) fun h3 =>
  gb (f_X5_get_2 p0 0 h3) fun x5 h4 =>
  (if x5 < p2 then
    (jb_X6_draw_42 h4)
  else
    gb (f_X1_oilOf p1 h4) fun x7 h6 =>
    (if p2 ≤ x7 then
      gbv (f_X0_save h6) fun h8 =>
      gbv (f_X1_takeOut p1 p2 h8) fun h9 =>
      (lp_X6_draw_71 FU p0 p2 0 h9)
    else
      (jb_X6_draw_42 h6)))
set_option maxRecDepth 20000 in
theorem gjb_X6_draw_42 (γ : Gv)   (h : Hst) : G γ RX6 cX6_draw 5 (some .int) [] vI 4 0 42 [] [] h (jb_X6_draw_42 h) := by
  unfold jb_X6_draw_42
  exact g_none
set_option maxRecDepth 20000 in
theorem glp_X6_draw_71 (γ : Gv)  : ∀ (n : Nat) (a1 : Int32) (a3 : Int32) (a4 : Int32) (h : Hst), G γ RX6 cX6_draw 5 (some .int) [] vI 4 0 71 [(0, .ref (gad γ 0)), (1, .int a1), (3, .int a3), (4, .int a4)] [] h (lp_X6_draw_71 n a1 a3 a4 h) := by
  intro n
  induction n with
  | zero => intro a1 a3 a4 h; exact g_none
  | succ n ih =>
    intro a1 a3 a4 h
    rw [lp_X6_draw_71]
    refine g_iload (pc := 71) dX6_draw_71 3 rfl ?_
    refine g_iconst (pc := 73) (v := 5) dX6_draw_73 (by decide) ?_
    refine g_icmp_ge (pc := 74) (tgt := 105) dX6_draw_74 (by decide) ?_ ?_
    · refine g_aload_n (pc := 105) dX6_draw_105 rfl 0 rfl ?_
      refine gf_RX6_12_0 (pc := 106) dX6_draw_106 ?_
      refine gf_RX6_200_1 (pc := 109) dX6_draw_109 ?_
      refine g_iload_n (pc := 112) dX6_draw_112 rfl 1 rfl ?_
      refine g_iconst (pc := 113) (v := 0) dX6_draw_113 (by decide) ?_
      refine g_iload_n (pc := 114) dX6_draw_114 rfl 2 rfl ?_
      refine g_ineg (pc := 115) dX6_draw_115 ?_
      refine g_cV (pc := 116) (st := []) (fun r hr => gRunV (As := [.int a1, .int 0, .int (-a3)]) 2 (ge_X5_add_2 γ a1 0 (-a3) h) hr wv_RX6_185 rfl (Nat.le_of_ble_eq_true rfl) (gat_2 _ _) rfl rfl (Nat.le_of_ble_eq_true rfl) (Nat.le_of_ble_eq_true rfl) dX6_draw_116) (fun h1 => ?_)
      refine g_aload_n (pc := 119) dX6_draw_119 rfl 0 rfl ?_
      refine gf_RX6_12_0 (pc := 120) dX6_draw_120 ?_
      refine gf_RX6_200_1 (pc := 123) dX6_draw_123 ?_
      refine g_iload_n (pc := 126) dX6_draw_126 rfl 1 rfl ?_
      refine g_iconst (pc := 127) (v := 1) dX6_draw_127 (by decide) ?_
      refine g_iload_n (pc := 128) dX6_draw_128 rfl 2 rfl ?_
      refine g_cV (pc := 129) (st := []) (fun r hr => gRunV (As := [.int a1, .int 1, .int a3]) 2 (ge_X5_add_2 γ a1 1 a3 h1) hr wv_RX6_185 rfl (Nat.le_of_ble_eq_true rfl) (gat_2 _ _) rfl rfl (Nat.le_of_ble_eq_true rfl) (Nat.le_of_ble_eq_true rfl) dX6_draw_129) (fun h2 => ?_)
      refine g_aload_n (pc := 132) dX6_draw_132 rfl 0 rfl ?_
      refine gf_RX6_12_0 (pc := 133) dX6_draw_133 ?_
      refine gf_RX6_200_1 (pc := 136) dX6_draw_136 ?_
      refine g_iload_n (pc := 139) dX6_draw_139 rfl 1 rfl ?_
      refine g_iconst (pc := 140) (v := 0) dX6_draw_140 (by decide) ?_
      refine g_cI (pc := 141) (st := []) (fun r hr => gRunV (As := [.int a1, .int 0]) 2 (ge_X5_get_2 γ a1 0 h2) hr wv_RX6_116 rfl (Nat.le_of_ble_eq_true rfl) (gat_2 _ _) rfl rfl (Nat.le_of_ble_eq_true rfl) (Nat.le_of_ble_eq_true rfl) dX6_draw_141) (fun x4 h3 => ?_)
      exact g_ireturn (pc := 144) (ty := .int) dX6_draw_144 rfl rfl rfl
    · refine g_aload_n (pc := 77) dX6_draw_77 rfl 0 rfl ?_
      refine gf_RX6_12_0 (pc := 78) dX6_draw_78 ?_
      refine gf_RX6_113_1 (pc := 81) dX6_draw_81 ?_
      refine g_iload (pc := 84) dX6_draw_84 3 rfl ?_
      refine g_iconst (pc := 86) (v := 2) dX6_draw_86 (by decide) ?_
      refine g_aload_n (pc := 87) dX6_draw_87 rfl 0 rfl ?_
      refine gf_RX6_21_0 (pc := 88) dX6_draw_88 ?_
      refine g_iload (pc := 91) dX6_draw_91 3 rfl ?_
      refine g_cI (pc := 93) (st := [.int 2, .int a4, .ref (gad γ 5)]) (fun r hr => gRunV (As := [.int a4]) 10 (ge_X1_part γ a4 h) hr wv_RX6_211 rfl (Nat.le_of_ble_eq_true rfl) (gat_10 _ _) rfl rfl (Nat.le_of_ble_eq_true rfl) (Nat.le_of_ble_eq_true rfl) dX6_draw_93) (fun x6 h5 => ?_)
      refine g_cV (pc := 96) (st := []) (fun r hr => gRunV (As := [.int a4, .int 2, .int x6]) 5 (ge_X5_add_5 γ a4 2 x6 h5) hr wv_RX6_185 rfl (Nat.le_of_ble_eq_true rfl) (gat_5 _ _) rfl rfl (Nat.le_of_ble_eq_true rfl) (Nat.le_of_ble_eq_true rfl) dX6_draw_96) (fun h7 => ?_)
      refine g_iinc (pc := 99) (q := 3) (v := a4 + 1) (lv' := [(4, .int (a4 + 1)), (0, .ref (gad γ 0)), (1, .int a1), (3, .int a3)]) dX6_draw_99 rfl rfl (by decide) rfl ?_
      refine g_goto (pc := 102) (tgt := 71) dX6_draw_102 (by decide) ?_
      exact g_sub [1, 2, 3, 0] rfl (ih a1 a3 (a4 + 1) h7)
set_option maxRecDepth 20000 in
theorem ge_X6_draw (γ : Gv) (p0 : Int32) (p1 : Int32) (p2 : Int32) (h : Hst) : G γ RX6 cX6_draw 5 (some .int) [] vI 4 0 0 (lv_args 0 [.ref (gad γ 0), .int p0, .int p1, .int p2]) [] h (f_X6_draw p0 p1 p2 h) := by
  show G γ RX6 cX6_draw 5 (some .int) [] vI 4 0 0 [(0, .ref (gad γ 0)), (1, .int p0), (2, .int p1), (3, .int p2)] [] h (f_X6_draw p0 p1 p2 h)
  unfold f_X6_draw
  refine g_aload_n (pc := 0) dX6_draw_0 rfl 0 rfl ?_
  refine g_iload_n (pc := 1) dX6_draw_1 rfl 1 rfl ?_
  refine g_cV (pc := 2) (st := []) (fun r hr => gRunV (As := [.int p0]) 0 (ge_X6_checkGrower γ p0 h) hr wv_RX6_71 rfl (Nat.le_of_ble_eq_true rfl) (gat_0 _ _) rfl rfl (Nat.le_of_ble_eq_true rfl) (Nat.le_of_ble_eq_true rfl) dX6_draw_2) (fun h1 => ?_)
  refine g_aload_n (pc := 5) dX6_draw_5 rfl 0 rfl ?_
  refine g_iload_n (pc := 6) dX6_draw_6 rfl 2 rfl ?_
  refine g_cV (pc := 7) (st := []) (fun r hr => gRunV (As := [.int p1]) 0 (ge_X6_checkTank γ p1 h1) hr wv_RX6_138 rfl (Nat.le_of_ble_eq_true rfl) (gat_0 _ _) rfl rfl (Nat.le_of_ble_eq_true rfl) (Nat.le_of_ble_eq_true rfl) dX6_draw_7) (fun h2 => ?_)
  refine g_iload_n (pc := 10) dX6_draw_10 rfl 3 rfl ?_
  refine g_cV (pc := 11) (st := []) (fun r hr => gRunS (As := [.int p2]) (ge_X6_checkOil γ p2 h2) hr wv_RX6_197 rfl (Nat.le_of_ble_eq_true rfl) rfl (Nat.le_of_ble_eq_true rfl) (Nat.le_of_ble_eq_true rfl) dX6_draw_11) (fun h3 => ?_)
  refine g_aload_n (pc := 14) dX6_draw_14 rfl 0 rfl ?_
  refine gf_RX6_12_0 (pc := 15) dX6_draw_15 ?_
  refine gf_RX6_200_1 (pc := 18) dX6_draw_18 ?_
  refine g_iload_n (pc := 21) dX6_draw_21 rfl 1 rfl ?_
  refine g_iconst (pc := 22) (v := 0) dX6_draw_22 (by decide) ?_
  refine g_cI (pc := 23) (st := []) (fun r hr => gRunV (As := [.int p0, .int 0]) 2 (ge_X5_get_2 γ p0 0 h3) hr wv_RX6_116 rfl (Nat.le_of_ble_eq_true rfl) (gat_2 _ _) rfl rfl (Nat.le_of_ble_eq_true rfl) (Nat.le_of_ble_eq_true rfl) dX6_draw_23) (fun x5 h4 => ?_)
  refine g_iload_n (pc := 26) dX6_draw_26 rfl 3 rfl ?_
  refine g_icmp_lt (pc := 27) (tgt := 42) dX6_draw_27 (by decide) ?_ ?_
  · exact g_sub [] rfl (gjb_X6_draw_42 γ h4)
  · refine g_aload_n (pc := 30) dX6_draw_30 rfl 0 rfl ?_
    refine gf_RX6_21_0 (pc := 31) dX6_draw_31 ?_
    refine g_iload_n (pc := 34) dX6_draw_34 rfl 2 rfl ?_
    refine g_cI (pc := 35) (st := []) (fun r hr => gRunV (As := [.int p1]) 10 (ge_X1_oilOf γ p1 h4) hr wv_RX6_203 rfl (Nat.le_of_ble_eq_true rfl) (gat_10 _ _) rfl rfl (Nat.le_of_ble_eq_true rfl) (Nat.le_of_ble_eq_true rfl) dX6_draw_35) (fun x7 h6 => ?_)
    refine g_iload_n (pc := 38) dX6_draw_38 rfl 3 rfl ?_
    refine g_icmp_ge (pc := 39) (tgt := 52) dX6_draw_39 (by decide) ?_ ?_
    · refine g_aload_n (pc := 52) dX6_draw_52 rfl 0 rfl ?_
      refine gf_RX6_12_0 (pc := 53) dX6_draw_53 ?_
      refine g_cV (pc := 56) (st := []) (fun r hr => gRunV (As := []) 1 (ge_X0_save γ h6) hr wv_RX6_64 rfl (Nat.le_of_ble_eq_true rfl) (gat_1 _ _) rfl rfl (Nat.le_of_ble_eq_true rfl) (Nat.le_of_ble_eq_true rfl) dX6_draw_56) (fun h8 => ?_)
      refine g_aload_n (pc := 59) dX6_draw_59 rfl 0 rfl ?_
      refine gf_RX6_21_0 (pc := 60) dX6_draw_60 ?_
      refine g_iload_n (pc := 63) dX6_draw_63 rfl 2 rfl ?_
      refine g_iload_n (pc := 64) dX6_draw_64 rfl 3 rfl ?_
      refine g_cV (pc := 65) (st := []) (fun r hr => gRunV (As := [.int p1, .int p2]) 10 (ge_X1_takeOut γ p1 p2 h8) hr wv_RX6_208 rfl (Nat.le_of_ble_eq_true rfl) (gat_10 _ _) rfl rfl (Nat.le_of_ble_eq_true rfl) (Nat.le_of_ble_eq_true rfl) dX6_draw_65) (fun h9 => ?_)
      refine g_iconst (pc := 68) (v := 0) dX6_draw_68 (by decide) ?_
      refine g_istore (pc := 69) (lv' := [(4, .int 0), (0, .ref (gad γ 0)), (1, .int p0), (2, .int p1), (3, .int p2)]) dX6_draw_69 (by decide) rfl ?_
      exact g_sub [1, 2, 4, 0] rfl (glp_X6_draw_71 γ FU p0 p2 0 h9)
    · exact g_sub [] rfl (gjb_X6_draw_42 γ h6)
def f_X6_taken (p0 : Int32) (p1 : Int32) (p2 : Int32) (h : Hst) : Option (Int32 × Hst) :=
  gbv (f_X6_checkTank p0 h) fun h1 =>
  gbv (f_X6_checkOil p1 h1) fun h2 =>
  gb (f_X6_isVariety p2 h2) fun x4 h3 =>
  (if x4 = 0 then
    none
  else
    gb (f_X1_oilOf p0 h3) fun x6 h5 =>
    (if p1 ≤ x6 then
      gbv (f_X1_split p0 p1 h5) fun h7 =>
      gb (f_X1_part p2 h7) fun x9 h8 =>
      (some (x9, h8))
    else
      (some ((-1), h5))))
set_option maxRecDepth 20000 in
theorem ge_X6_taken (γ : Gv) (p0 : Int32) (p1 : Int32) (p2 : Int32) (h : Hst) : G γ RX6 cX6_taken 4 (some .int) [] vI 3 0 0 (lv_args 0 [.ref (gad γ 0), .int p0, .int p1, .int p2]) [] h (f_X6_taken p0 p1 p2 h) := by
  show G γ RX6 cX6_taken 4 (some .int) [] vI 3 0 0 [(0, .ref (gad γ 0)), (1, .int p0), (2, .int p1), (3, .int p2)] [] h (f_X6_taken p0 p1 p2 h)
  unfold f_X6_taken
  refine g_aload_n (pc := 0) dX6_taken_0 rfl 0 rfl ?_
  refine g_iload_n (pc := 1) dX6_taken_1 rfl 1 rfl ?_
  refine g_cV (pc := 2) (st := []) (fun r hr => gRunV (As := [.int p0]) 0 (ge_X6_checkTank γ p0 h) hr wv_RX6_138 rfl (Nat.le_of_ble_eq_true rfl) (gat_0 _ _) rfl rfl (Nat.le_of_ble_eq_true rfl) (Nat.le_of_ble_eq_true rfl) dX6_taken_2) (fun h1 => ?_)
  refine g_iload_n (pc := 5) dX6_taken_5 rfl 2 rfl ?_
  refine g_cV (pc := 6) (st := []) (fun r hr => gRunS (As := [.int p1]) (ge_X6_checkOil γ p1 h1) hr wv_RX6_197 rfl (Nat.le_of_ble_eq_true rfl) rfl (Nat.le_of_ble_eq_true rfl) (Nat.le_of_ble_eq_true rfl) dX6_taken_6) (fun h2 => ?_)
  refine g_iload_n (pc := 9) dX6_taken_9 rfl 3 rfl ?_
  refine g_cI (pc := 10) (st := []) (fun r hr => gRunS (As := [.int p2]) (ge_X6_isVariety γ p2 h2) hr wv_RX6_75 rfl (Nat.le_of_ble_eq_true rfl) rfl (Nat.le_of_ble_eq_true rfl) (Nat.le_of_ble_eq_true rfl) dX6_taken_10) (fun x4 h3 => ?_)
  refine g_if_ne (pc := 13) (tgt := 27) dX6_taken_13 (by decide) ?_ ?_
  · refine g_aload_n (pc := 27) dX6_taken_27 rfl 0 rfl ?_
    refine gf_RX6_21_0 (pc := 28) dX6_taken_28 ?_
    refine g_iload_n (pc := 31) dX6_taken_31 rfl 1 rfl ?_
    refine g_cI (pc := 32) (st := []) (fun r hr => gRunV (As := [.int p0]) 10 (ge_X1_oilOf γ p0 h3) hr wv_RX6_203 rfl (Nat.le_of_ble_eq_true rfl) (gat_10 _ _) rfl rfl (Nat.le_of_ble_eq_true rfl) (Nat.le_of_ble_eq_true rfl) dX6_taken_32) (fun x6 h5 => ?_)
    refine g_iload_n (pc := 35) dX6_taken_35 rfl 2 rfl ?_
    refine g_icmp_ge (pc := 36) (tgt := 41) dX6_taken_36 (by decide) ?_ ?_
    · refine g_aload_n (pc := 41) dX6_taken_41 rfl 0 rfl ?_
      refine gf_RX6_21_0 (pc := 42) dX6_taken_42 ?_
      refine g_iload_n (pc := 45) dX6_taken_45 rfl 1 rfl ?_
      refine g_iload_n (pc := 46) dX6_taken_46 rfl 2 rfl ?_
      refine g_cV (pc := 47) (st := []) (fun r hr => gRunV (As := [.int p0, .int p1]) 10 (ge_X1_split γ p0 p1 h5) hr wv_RX6_313 rfl (Nat.le_of_ble_eq_true rfl) (gat_10 _ _) rfl rfl (Nat.le_of_ble_eq_true rfl) (Nat.le_of_ble_eq_true rfl) dX6_taken_47) (fun h7 => ?_)
      refine g_aload_n (pc := 50) dX6_taken_50 rfl 0 rfl ?_
      refine gf_RX6_21_0 (pc := 51) dX6_taken_51 ?_
      refine g_iload_n (pc := 54) dX6_taken_54 rfl 3 rfl ?_
      refine g_cI (pc := 55) (st := []) (fun r hr => gRunV (As := [.int p2]) 10 (ge_X1_part γ p2 h7) hr wv_RX6_211 rfl (Nat.le_of_ble_eq_true rfl) (gat_10 _ _) rfl rfl (Nat.le_of_ble_eq_true rfl) (Nat.le_of_ble_eq_true rfl) dX6_taken_55) (fun x9 h8 => ?_)
      exact g_ireturn (pc := 58) (ty := .int) dX6_taken_58 rfl rfl rfl
    · refine g_iconst (pc := 39) (v := (-1)) dX6_taken_39 (by decide) ?_
      exact g_ireturn (pc := 40) (ty := .int) dX6_taken_40 rfl rfl rfl
  · exact g_none
def jb_X6_checkLot_19   (h : Hst) : Option (Hst) :=
  none
def f_X6_checkLot (p0 : Int32) (h : Hst) : Option (Hst) :=
  (if p0 < 0 then
    (jb_X6_checkLot_19 h)
  else
    gb (f_X3_get_7 1 h) fun x2 h1 =>
    (if p0 < x2 then
      (some h1)
    else
      (jb_X6_checkLot_19 h1)))
set_option maxRecDepth 20000 in
theorem gjb_X6_checkLot_19 (γ : Gv)   (h : Hst) : G γ RX6 cX6_checkLot 2 none [] vV 1 0 19 [] [] h (jb_X6_checkLot_19 h) := by
  unfold jb_X6_checkLot_19
  exact g_none
set_option maxRecDepth 20000 in
theorem ge_X6_checkLot (γ : Gv) (p0 : Int32) (h : Hst) : G γ RX6 cX6_checkLot 2 none [] vV 1 0 0 (lv_args 0 [.ref (gad γ 0), .int p0]) [] h (f_X6_checkLot p0 h) := by
  show G γ RX6 cX6_checkLot 2 none [] vV 1 0 0 [(0, .ref (gad γ 0)), (1, .int p0)] [] h (f_X6_checkLot p0 h)
  unfold f_X6_checkLot
  refine g_iload_n (pc := 0) dX6_checkLot_0 rfl 1 rfl ?_
  refine g_if_lt (pc := 1) (tgt := 19) dX6_checkLot_1 (by decide) ?_ ?_
  · exact g_sub [] rfl (gjb_X6_checkLot_19 γ h)
  · refine g_iload_n (pc := 4) dX6_checkLot_4 rfl 1 rfl ?_
    refine g_aload_n (pc := 5) dX6_checkLot_5 rfl 0 rfl ?_
    refine gf_RX6_12_0 (pc := 6) dX6_checkLot_6 ?_
    refine gf_RX6_47_1 (pc := 9) dX6_checkLot_9 ?_
    refine g_iconst (pc := 12) (v := 1) dX6_checkLot_12 (by decide) ?_
    refine g_cI (pc := 13) (st := [.int p0]) (fun r hr => gRunV (As := [.int 1]) 7 (ge_X3_get_7 γ 1 h) hr wv_RX6_51 rfl (Nat.le_of_ble_eq_true rfl) (gat_7 _ _) rfl rfl (Nat.le_of_ble_eq_true rfl) (Nat.le_of_ble_eq_true rfl) dX6_checkLot_13) (fun x2 h1 => ?_)
    refine g_icmp_lt (pc := 16) (tgt := 30) dX6_checkLot_16 (by decide) ?_ ?_
    · exact g_return (pc := 30) dX6_checkLot_30 rfl rfl
    · exact g_sub [] rfl (gjb_X6_checkLot_19 γ h1)
def jb_X5_get_3_37  (s0 : Int32) (h : Hst) : Option (Int32 × Hst) :=
  (some (s0, h))
def jb_X5_get_3_36   (h : Hst) : Option (Int32 × Hst) :=
  (jb_X5_get_3_37 0 h)
def f_X5_get_3 (p0 : Int32) (p1 : Int32) (h : Hst) : Option (Int32 × Hst) :=
  gl ((32 + (p0 * 11)) + p1) fun x1 =>
  (if x1 < 0 then
    (jb_X5_get_3_36 h)
  else
    (if 553 ≤ x1 then
      (jb_X5_get_3_36 h)
    else
      gck x1 553 ((jb_X5_get_3_37 (h.1 8 x1.toNatClampNeg) h))))
set_option maxRecDepth 20000 in
theorem gjb_X5_get_3_37 (γ : Gv)  (s0 : Int32) (h : Hst) : G γ RX5 cX5_get 4 (some .int) [] vI 0 0 37 [] [.int s0] h (jb_X5_get_3_37 s0 h) := by
  unfold jb_X5_get_3_37
  exact g_ireturn (pc := 37) (ty := .int) dX5_get_37 rfl rfl rfl
set_option maxRecDepth 20000 in
theorem gjb_X5_get_3_36 (γ : Gv)   (h : Hst) : G γ RX5 cX5_get 4 (some .int) [] vI 0 0 36 [] [] h (jb_X5_get_3_36 h) := by
  unfold jb_X5_get_3_36
  refine g_iconst (pc := 36) (v := 0) dX5_get_36 (by decide) ?_
  exact gjb_X5_get_3_37 γ 0 h
set_option maxRecDepth 20000 in
theorem ge_X5_get_3 (γ : Gv) (p0 : Int32) (p1 : Int32) (h : Hst) : G γ RX5 cX5_get 4 (some .int) [] vI 0 0 0 (lv_args 0 [.ref (gad γ 3), .int p0, .int p1]) [] h (f_X5_get_3 p0 p1 h) := by
  show G γ RX5 cX5_get 4 (some .int) [] vI 0 0 0 [(0, .ref (gad γ 3)), (1, .int p0), (2, .int p1)] [] h (f_X5_get_3 p0 p1 h)
  unfold f_X5_get_3
  refine g_aload_n (pc := 0) dX5_get_0 rfl 0 rfl ?_
  refine gf_RX5_13_3 (pc := 1) dX5_get_1 ?_
  refine g_iload_n (pc := 4) dX5_get_4 rfl 1 rfl ?_
  refine g_aload_n (pc := 5) dX5_get_5 rfl 0 rfl ?_
  refine gf_RX5_17_3 (pc := 6) dX5_get_6 ?_
  refine g_imul (pc := 9) dX5_get_9 ?_
  refine g_iadd (pc := 10) dX5_get_10 ?_
  refine g_iload_n (pc := 11) dX5_get_11 rfl 2 rfl ?_
  refine g_iadd (pc := 12) dX5_get_12 ?_
  refine g_nmi (fun x1 => ?_)
  refine g_istore_n (pc := 13) (lv' := [(3, .int x1), (0, .ref (gad γ 3)), (1, .int p0), (2, .int p1)]) dX5_get_13 rfl (by decide) rfl ?_
  refine g_iload_n (pc := 14) dX5_get_14 rfl 0 rfl ?_
  refine g_if_lt (pc := 15) (tgt := 36) dX5_get_15 (by decide) ?_ ?_
  · exact g_sub [] rfl (gjb_X5_get_3_36 γ h)
  · refine g_iload_n (pc := 18) dX5_get_18 rfl 0 rfl ?_
    refine g_aload_n (pc := 19) dX5_get_19 rfl 1 rfl ?_
    refine gf_RX5_7_3 (pc := 20) dX5_get_20 ?_
    refine g_alen (pc := 23) (n := 0) (v := 553) 8 0 (gat_8 _ _) rfl rfl dX5_get_23 ?_
    refine g_icmp_ge (pc := 24) (tgt := 36) dX5_get_24 (by decide) ?_ ?_
    · exact g_sub [] rfl (gjb_X5_get_3_36 γ h)
    · refine g_aload_n (pc := 27) dX5_get_27 rfl 1 rfl ?_
      refine gf_RX5_7_3 (pc := 28) dX5_get_28 ?_
      refine g_iload_n (pc := 31) dX5_get_31 rfl 0 rfl ?_
      refine g_iald (pc := 32) 8 (gat_8 _ _) dX5_get_32 ?_
      refine g_goto (pc := 33) (tgt := 37) dX5_get_33 (by decide) ?_
      exact g_sub [] rfl (gjb_X5_get_3_37 γ (h.1 8 x1.toNatClampNeg) h)
def jb_X0_gradeOfLot_29  (s0 : Int32) (h : Hst) : Option (Int32 × Hst) :=
  (some (s0, h))
def f_X0_gradeOfLot (p0 : Int32) (h : Hst) : Option (Int32 × Hst) :=
  gb (f_X5_get_3 p0 3 h) fun x2 h1 =>
  (if 8 < x2 then
    (if 20 < x2 then
      (jb_X0_gradeOfLot_29 2 h1)
    else
      (jb_X0_gradeOfLot_29 1 h1))
  else
    (some (0, h1)))
set_option maxRecDepth 20000 in
theorem gjb_X0_gradeOfLot_29 (γ : Gv)  (s0 : Int32) (h : Hst) : G γ RX0 cX0_gradeOfLot 3 (some .int) [] vI 1 0 29 [] [.int s0] h (jb_X0_gradeOfLot_29 s0 h) := by
  unfold jb_X0_gradeOfLot_29
  exact g_ireturn (pc := 29) (ty := .int) dX0_gradeOfLot_29 rfl rfl rfl
set_option maxRecDepth 20000 in
theorem ge_X0_gradeOfLot (γ : Gv) (p0 : Int32) (h : Hst) : G γ RX0 cX0_gradeOfLot 3 (some .int) [] vI 1 0 0 (lv_args 0 [.ref (gad γ 1), .int p0]) [] h (f_X0_gradeOfLot p0 h) := by
  show G γ RX0 cX0_gradeOfLot 3 (some .int) [] vI 1 0 0 [(0, .ref (gad γ 1)), (1, .int p0)] [] h (f_X0_gradeOfLot p0 h)
  unfold f_X0_gradeOfLot
  refine g_aload_n (pc := 0) dX0_gradeOfLot_0 rfl 0 rfl ?_
  refine gf_RX0_27_1 (pc := 1) dX0_gradeOfLot_1 ?_
  refine g_iload_n (pc := 4) dX0_gradeOfLot_4 rfl 1 rfl ?_
  refine g_iconst (pc := 5) (v := 3) dX0_gradeOfLot_5 (by decide) ?_
  refine g_cI (pc := 6) (st := []) (fun r hr => gRunV (As := [.int p0, .int 3]) 3 (ge_X5_get_3 γ p0 3 h) hr wv_RX0_61 rfl (Nat.le_of_ble_eq_true rfl) (gat_3 _ _) rfl rfl (Nat.le_of_ble_eq_true rfl) (Nat.le_of_ble_eq_true rfl) dX0_gradeOfLot_6) (fun x2 h1 => ?_)
  refine g_istore_n (pc := 9) (lv' := [(2, .int x2), (0, .ref (gad γ 1)), (1, .int p0)]) dX0_gradeOfLot_9 rfl (by decide) rfl ?_
  refine g_iload_n (pc := 10) dX0_gradeOfLot_10 rfl 0 rfl ?_
  refine g_bipush (pc := 11) (v := 8) dX0_gradeOfLot_11 (by decide) ?_
  refine g_icmp_gt (pc := 13) (tgt := 18) dX0_gradeOfLot_13 (by decide) ?_ ?_
  · refine g_iload_n (pc := 18) dX0_gradeOfLot_18 rfl 0 rfl ?_
    refine g_bipush (pc := 19) (v := 20) dX0_gradeOfLot_19 (by decide) ?_
    refine g_icmp_gt (pc := 21) (tgt := 28) dX0_gradeOfLot_21 (by decide) ?_ ?_
    · refine g_iconst (pc := 28) (v := 2) dX0_gradeOfLot_28 (by decide) ?_
      exact g_sub [] rfl (gjb_X0_gradeOfLot_29 γ 2 h1)
    · refine g_iconst (pc := 24) (v := 1) dX0_gradeOfLot_24 (by decide) ?_
      refine g_goto (pc := 25) (tgt := 29) dX0_gradeOfLot_25 (by decide) ?_
      exact g_sub [] rfl (gjb_X0_gradeOfLot_29 γ 1 h1)
  · refine g_iconst (pc := 16) (v := 0) dX0_gradeOfLot_16 (by decide) ?_
    exact g_ireturn (pc := 17) (ty := .int) dX0_gradeOfLot_17 rfl rfl rfl
def jb_X6_ifPressed_32  (s0 : Int32) (h : Hst) : Option (Int32 × Hst) :=
  (some (s0, h))
def f_X6_ifPressed (p0 : Int32) (p1 : Int32) (p2 : Int32) (h : Hst) : Option (Int32 × Hst) :=
  gb (f_X5_get_3 p0 5 h) fun x2 h1 =>
  (if x2 < p1 then
    (jb_X6_ifPressed_32 (-1) h1)
  else
    gb (f_X5_get_3 p0 p2 h1) fun x4 h3 =>
    (jb_X6_ifPressed_32 x4 h3))
set_option maxRecDepth 20000 in
theorem gjb_X6_ifPressed_32 (γ : Gv)  (s0 : Int32) (h : Hst) : G γ RX6 cX6_ifPressed 4 (some .int) [] vI 1 0 32 [] [.int s0] h (jb_X6_ifPressed_32 s0 h) := by
  unfold jb_X6_ifPressed_32
  exact g_ireturn (pc := 32) (ty := .int) dX6_ifPressed_32 rfl rfl rfl
set_option maxRecDepth 20000 in
theorem ge_X6_ifPressed (γ : Gv) (p0 : Int32) (p1 : Int32) (p2 : Int32) (h : Hst) : G γ RX6 cX6_ifPressed 4 (some .int) [] vI 1 0 0 (lv_args 0 [.ref (gad γ 0), .int p0, .int p1, .int p2]) [] h (f_X6_ifPressed p0 p1 p2 h) := by
  show G γ RX6 cX6_ifPressed 4 (some .int) [] vI 1 0 0 [(0, .ref (gad γ 0)), (1, .int p0), (2, .int p1), (3, .int p2)] [] h (f_X6_ifPressed p0 p1 p2 h)
  unfold f_X6_ifPressed
  refine g_aload_n (pc := 0) dX6_ifPressed_0 rfl 0 rfl ?_
  refine gf_RX6_12_0 (pc := 1) dX6_ifPressed_1 ?_
  refine gf_RX6_182_1 (pc := 4) dX6_ifPressed_4 ?_
  refine g_iload_n (pc := 7) dX6_ifPressed_7 rfl 1 rfl ?_
  refine g_iconst (pc := 8) (v := 5) dX6_ifPressed_8 (by decide) ?_
  refine g_cI (pc := 9) (st := []) (fun r hr => gRunV (As := [.int p0, .int 5]) 3 (ge_X5_get_3 γ p0 5 h) hr wv_RX6_116 rfl (Nat.le_of_ble_eq_true rfl) (gat_3 _ _) rfl rfl (Nat.le_of_ble_eq_true rfl) (Nat.le_of_ble_eq_true rfl) dX6_ifPressed_9) (fun x2 h1 => ?_)
  refine g_iload_n (pc := 12) dX6_ifPressed_12 rfl 2 rfl ?_
  refine g_icmp_lt (pc := 13) (tgt := 31) dX6_ifPressed_13 (by decide) ?_ ?_
  · refine g_iconst (pc := 31) (v := (-1)) dX6_ifPressed_31 (by decide) ?_
    exact g_sub [] rfl (gjb_X6_ifPressed_32 γ (-1) h1)
  · refine g_aload_n (pc := 16) dX6_ifPressed_16 rfl 0 rfl ?_
    refine gf_RX6_12_0 (pc := 17) dX6_ifPressed_17 ?_
    refine gf_RX6_182_1 (pc := 20) dX6_ifPressed_20 ?_
    refine g_iload_n (pc := 23) dX6_ifPressed_23 rfl 1 rfl ?_
    refine g_iload_n (pc := 24) dX6_ifPressed_24 rfl 3 rfl ?_
    refine g_cI (pc := 25) (st := []) (fun r hr => gRunV (As := [.int p0, .int p2]) 3 (ge_X5_get_3 γ p0 p2 h1) hr wv_RX6_116 rfl (Nat.le_of_ble_eq_true rfl) (gat_3 _ _) rfl rfl (Nat.le_of_ble_eq_true rfl) (Nat.le_of_ble_eq_true rfl) dX6_ifPressed_25) (fun x4 h3 => ?_)
    refine g_goto (pc := 28) (tgt := 32) dX6_ifPressed_28 (by decide) ?_
    exact g_sub [] rfl (gjb_X6_ifPressed_32 γ x4 h3)
def f_X6_secondOilOf (p0 : Int32) (h : Hst) : Option (Int32 × Hst) :=
  gb (f_X5_get_3 p0 7 h) fun x2 h1 =>
  gb (f_X5_get_3 p0 8 h1) fun x4 h3 =>
  gl (x2 - x4) fun x5 =>
  gb (f_X3_get_6 2 h3) fun x7 h6 =>
  gdz 1000 ((some ((x5 * x7) / 1000, h6)))
set_option maxRecDepth 20000 in
theorem ge_X6_secondOilOf (γ : Gv) (p0 : Int32) (h : Hst) : G γ RX6 cX6_secondOilOf 3 (some .int) [] vI 1 0 0 (lv_args 0 [.ref (gad γ 0), .int p0]) [] h (f_X6_secondOilOf p0 h) := by
  show G γ RX6 cX6_secondOilOf 3 (some .int) [] vI 1 0 0 [(0, .ref (gad γ 0)), (1, .int p0)] [] h (f_X6_secondOilOf p0 h)
  unfold f_X6_secondOilOf
  refine g_aload_n (pc := 0) dX6_secondOilOf_0 rfl 0 rfl ?_
  refine gf_RX6_12_0 (pc := 1) dX6_secondOilOf_1 ?_
  refine gf_RX6_182_1 (pc := 4) dX6_secondOilOf_4 ?_
  refine g_iload_n (pc := 7) dX6_secondOilOf_7 rfl 1 rfl ?_
  refine g_bipush (pc := 8) (v := 7) dX6_secondOilOf_8 (by decide) ?_
  refine g_cI (pc := 10) (st := []) (fun r hr => gRunV (As := [.int p0, .int 7]) 3 (ge_X5_get_3 γ p0 7 h) hr wv_RX6_116 rfl (Nat.le_of_ble_eq_true rfl) (gat_3 _ _) rfl rfl (Nat.le_of_ble_eq_true rfl) (Nat.le_of_ble_eq_true rfl) dX6_secondOilOf_10) (fun x2 h1 => ?_)
  refine g_aload_n (pc := 13) dX6_secondOilOf_13 rfl 0 rfl ?_
  refine gf_RX6_12_0 (pc := 14) dX6_secondOilOf_14 ?_
  refine gf_RX6_182_1 (pc := 17) dX6_secondOilOf_17 ?_
  refine g_iload_n (pc := 20) dX6_secondOilOf_20 rfl 1 rfl ?_
  refine g_bipush (pc := 21) (v := 8) dX6_secondOilOf_21 (by decide) ?_
  refine g_cI (pc := 23) (st := [.int x2]) (fun r hr => gRunV (As := [.int p0, .int 8]) 3 (ge_X5_get_3 γ p0 8 h1) hr wv_RX6_116 rfl (Nat.le_of_ble_eq_true rfl) (gat_3 _ _) rfl rfl (Nat.le_of_ble_eq_true rfl) (Nat.le_of_ble_eq_true rfl) dX6_secondOilOf_23) (fun x4 h3 => ?_)
  refine g_isub (pc := 26) dX6_secondOilOf_26 ?_
  refine g_nmi (fun x5 => ?_)
  refine g_istore_n (pc := 27) (lv' := [(2, .int x5), (0, .ref (gad γ 0)), (1, .int p0)]) dX6_secondOilOf_27 rfl (by decide) rfl ?_
  refine g_iload_n (pc := 28) dX6_secondOilOf_28 rfl 0 rfl ?_
  refine g_aload_n (pc := 29) dX6_secondOilOf_29 rfl 1 rfl ?_
  refine gf_RX6_12_0 (pc := 30) dX6_secondOilOf_30 ?_
  refine gf_RX6_133_1 (pc := 33) dX6_secondOilOf_33 ?_
  refine g_iconst (pc := 36) (v := 2) dX6_secondOilOf_36 (by decide) ?_
  refine g_cI (pc := 37) (st := [.int x5]) (fun r hr => gRunV (As := [.int 2]) 6 (ge_X3_get_6 γ 2 h3) hr wv_RX6_51 rfl (Nat.le_of_ble_eq_true rfl) (gat_6 _ _) rfl rfl (Nat.le_of_ble_eq_true rfl) (Nat.le_of_ble_eq_true rfl) dX6_secondOilOf_37) (fun x7 h6 => ?_)
  refine g_imul (pc := 40) dX6_secondOilOf_40 ?_
  refine g_sipush (pc := 41) (v := 1000) dX6_secondOilOf_41 (by decide) ?_
  refine g_idiv (pc := 44) dX6_secondOilOf_44 ?_
  exact g_ireturn (pc := 45) (ty := .int) dX6_secondOilOf_45 rfl rfl rfl
def f_X6_reasonAgainstAppeal (p0 : Int32) (h : Hst) : Option (Int32 × Hst) :=
  gb (f_X5_get_3 p0 5 h) fun x2 h1 =>
  (if x2 = 1 then
    gb (f_X5_get_3 p0 6 h1) fun x4 h3 =>
    gb (f_X3_get_6 1 h3) fun x6 h5 =>
    gdz 1000 (gl ((x4 * x6) / 1000) fun x7 =>
    gb (f_X5_get_3 p0 8 h5) fun x9 h8 =>
    gb (f_X3_get_6 6 h8) fun x11 h10 =>
    gdz 1000 ((if x9 < ((x7 * (1000 - x11)) / 1000) then
      gb (f_X6_secondOilOf p0 h10) fun x13 h12 =>
      gb (f_X5_get_3 p0 10 h12) fun x15 h14 =>
      gb (f_X1_roomOf x15 h14) fun x17 h16 =>
      (if x13 ≤ x17 then
        (some (0, h16))
      else
        (some (3, h16)))
    else
      (some (2, h10)))))
  else
    (some (1, h1)))
set_option maxRecDepth 20000 in
theorem ge_X6_reasonAgainstAppeal (γ : Gv) (p0 : Int32) (h : Hst) : G γ RX6 cX6_reasonAgainstAppeal 3 (some .int) [] vI 3 0 0 (lv_args 0 [.ref (gad γ 0), .int p0]) [] h (f_X6_reasonAgainstAppeal p0 h) := by
  show G γ RX6 cX6_reasonAgainstAppeal 3 (some .int) [] vI 3 0 0 [(0, .ref (gad γ 0)), (1, .int p0)] [] h (f_X6_reasonAgainstAppeal p0 h)
  unfold f_X6_reasonAgainstAppeal
  refine g_aload_n (pc := 0) dX6_reasonAgainstAppeal_0 rfl 0 rfl ?_
  refine gf_RX6_12_0 (pc := 1) dX6_reasonAgainstAppeal_1 ?_
  refine gf_RX6_182_1 (pc := 4) dX6_reasonAgainstAppeal_4 ?_
  refine g_iload_n (pc := 7) dX6_reasonAgainstAppeal_7 rfl 1 rfl ?_
  refine g_iconst (pc := 8) (v := 5) dX6_reasonAgainstAppeal_8 (by decide) ?_
  refine g_cI (pc := 9) (st := []) (fun r hr => gRunV (As := [.int p0, .int 5]) 3 (ge_X5_get_3 γ p0 5 h) hr wv_RX6_116 rfl (Nat.le_of_ble_eq_true rfl) (gat_3 _ _) rfl rfl (Nat.le_of_ble_eq_true rfl) (Nat.le_of_ble_eq_true rfl) dX6_reasonAgainstAppeal_9) (fun x2 h1 => ?_)
  refine g_iconst (pc := 12) (v := 1) dX6_reasonAgainstAppeal_12 (by decide) ?_
  refine g_icmp_eq (pc := 13) (tgt := 18) dX6_reasonAgainstAppeal_13 (by decide) ?_ ?_
  · refine g_aload_n (pc := 18) dX6_reasonAgainstAppeal_18 rfl 0 rfl ?_
    refine gf_RX6_12_0 (pc := 19) dX6_reasonAgainstAppeal_19 ?_
    refine gf_RX6_182_1 (pc := 22) dX6_reasonAgainstAppeal_22 ?_
    refine g_iload_n (pc := 25) dX6_reasonAgainstAppeal_25 rfl 1 rfl ?_
    refine g_bipush (pc := 26) (v := 6) dX6_reasonAgainstAppeal_26 (by decide) ?_
    refine g_cI (pc := 28) (st := []) (fun r hr => gRunV (As := [.int p0, .int 6]) 3 (ge_X5_get_3 γ p0 6 h1) hr wv_RX6_116 rfl (Nat.le_of_ble_eq_true rfl) (gat_3 _ _) rfl rfl (Nat.le_of_ble_eq_true rfl) (Nat.le_of_ble_eq_true rfl) dX6_reasonAgainstAppeal_28) (fun x4 h3 => ?_)
    refine g_aload_n (pc := 31) dX6_reasonAgainstAppeal_31 rfl 0 rfl ?_
    refine gf_RX6_12_0 (pc := 32) dX6_reasonAgainstAppeal_32 ?_
    refine gf_RX6_133_1 (pc := 35) dX6_reasonAgainstAppeal_35 ?_
    refine g_iconst (pc := 38) (v := 1) dX6_reasonAgainstAppeal_38 (by decide) ?_
    refine g_cI (pc := 39) (st := [.int x4]) (fun r hr => gRunV (As := [.int 1]) 6 (ge_X3_get_6 γ 1 h3) hr wv_RX6_51 rfl (Nat.le_of_ble_eq_true rfl) (gat_6 _ _) rfl rfl (Nat.le_of_ble_eq_true rfl) (Nat.le_of_ble_eq_true rfl) dX6_reasonAgainstAppeal_39) (fun x6 h5 => ?_)
    refine g_imul (pc := 42) dX6_reasonAgainstAppeal_42 ?_
    refine g_sipush (pc := 43) (v := 1000) dX6_reasonAgainstAppeal_43 (by decide) ?_
    refine g_idiv (pc := 46) dX6_reasonAgainstAppeal_46 ?_
    refine g_nmi (fun x7 => ?_)
    refine g_istore_n (pc := 47) (lv' := [(2, .int x7), (0, .ref (gad γ 0)), (1, .int p0)]) dX6_reasonAgainstAppeal_47 rfl (by decide) rfl ?_
    refine g_aload_n (pc := 48) dX6_reasonAgainstAppeal_48 rfl 1 rfl ?_
    refine gf_RX6_12_0 (pc := 49) dX6_reasonAgainstAppeal_49 ?_
    refine gf_RX6_182_1 (pc := 52) dX6_reasonAgainstAppeal_52 ?_
    refine g_iload_n (pc := 55) dX6_reasonAgainstAppeal_55 rfl 2 rfl ?_
    refine g_bipush (pc := 56) (v := 8) dX6_reasonAgainstAppeal_56 (by decide) ?_
    refine g_cI (pc := 58) (st := []) (fun r hr => gRunV (As := [.int p0, .int 8]) 3 (ge_X5_get_3 γ p0 8 h5) hr wv_RX6_116 rfl (Nat.le_of_ble_eq_true rfl) (gat_3 _ _) rfl rfl (Nat.le_of_ble_eq_true rfl) (Nat.le_of_ble_eq_true rfl) dX6_reasonAgainstAppeal_58) (fun x9 h8 => ?_)
    refine g_iload_n (pc := 61) dX6_reasonAgainstAppeal_61 rfl 0 rfl ?_
    refine g_sipush (pc := 62) (v := 1000) dX6_reasonAgainstAppeal_62 (by decide) ?_
    refine g_aload_n (pc := 65) dX6_reasonAgainstAppeal_65 rfl 1 rfl ?_
    refine gf_RX6_12_0 (pc := 66) dX6_reasonAgainstAppeal_66 ?_
    refine gf_RX6_133_1 (pc := 69) dX6_reasonAgainstAppeal_69 ?_
    refine g_bipush (pc := 72) (v := 6) dX6_reasonAgainstAppeal_72 (by decide) ?_
    refine g_cI (pc := 74) (st := [.int 1000, .int x7, .int x9]) (fun r hr => gRunV (As := [.int 6]) 6 (ge_X3_get_6 γ 6 h8) hr wv_RX6_51 rfl (Nat.le_of_ble_eq_true rfl) (gat_6 _ _) rfl rfl (Nat.le_of_ble_eq_true rfl) (Nat.le_of_ble_eq_true rfl) dX6_reasonAgainstAppeal_74) (fun x11 h10 => ?_)
    refine g_isub (pc := 77) dX6_reasonAgainstAppeal_77 ?_
    refine g_imul (pc := 78) dX6_reasonAgainstAppeal_78 ?_
    refine g_sipush (pc := 79) (v := 1000) dX6_reasonAgainstAppeal_79 (by decide) ?_
    refine g_idiv (pc := 82) dX6_reasonAgainstAppeal_82 ?_
    refine g_icmp_lt (pc := 83) (tgt := 88) dX6_reasonAgainstAppeal_83 (by decide) ?_ ?_
    · refine g_aload_n (pc := 88) dX6_reasonAgainstAppeal_88 rfl 1 rfl ?_
      refine g_iload_n (pc := 89) dX6_reasonAgainstAppeal_89 rfl 2 rfl ?_
      refine g_cI (pc := 90) (st := []) (fun r hr => gRunV (As := [.int p0]) 0 (ge_X6_secondOilOf γ p0 h10) hr wv_RX6_179 rfl (Nat.le_of_ble_eq_true rfl) (gat_0 _ _) rfl rfl (Nat.le_of_ble_eq_true rfl) (Nat.le_of_ble_eq_true rfl) dX6_reasonAgainstAppeal_90) (fun x13 h12 => ?_)
      refine g_aload_n (pc := 93) dX6_reasonAgainstAppeal_93 rfl 1 rfl ?_
      refine gf_RX6_21_0 (pc := 94) dX6_reasonAgainstAppeal_94 ?_
      refine g_aload_n (pc := 97) dX6_reasonAgainstAppeal_97 rfl 1 rfl ?_
      refine gf_RX6_12_0 (pc := 98) dX6_reasonAgainstAppeal_98 ?_
      refine gf_RX6_182_1 (pc := 101) dX6_reasonAgainstAppeal_101 ?_
      refine g_iload_n (pc := 104) dX6_reasonAgainstAppeal_104 rfl 2 rfl ?_
      refine g_bipush (pc := 105) (v := 10) dX6_reasonAgainstAppeal_105 (by decide) ?_
      refine g_cI (pc := 107) (st := [.ref (gad γ 10), .int x13]) (fun r hr => gRunV (As := [.int p0, .int 10]) 3 (ge_X5_get_3 γ p0 10 h12) hr wv_RX6_116 rfl (Nat.le_of_ble_eq_true rfl) (gat_3 _ _) rfl rfl (Nat.le_of_ble_eq_true rfl) (Nat.le_of_ble_eq_true rfl) dX6_reasonAgainstAppeal_107) (fun x15 h14 => ?_)
      refine g_cI (pc := 110) (st := [.int x13]) (fun r hr => gRunV (As := [.int x15]) 10 (ge_X1_roomOf γ x15 h14) hr wv_RX6_219 rfl (Nat.le_of_ble_eq_true rfl) (gat_10 _ _) rfl rfl (Nat.le_of_ble_eq_true rfl) (Nat.le_of_ble_eq_true rfl) dX6_reasonAgainstAppeal_110) (fun x17 h16 => ?_)
      refine g_icmp_le (pc := 113) (tgt := 118) dX6_reasonAgainstAppeal_113 (by decide) ?_ ?_
      · refine g_iconst (pc := 118) (v := 0) dX6_reasonAgainstAppeal_118 (by decide) ?_
        exact g_ireturn (pc := 119) (ty := .int) dX6_reasonAgainstAppeal_119 rfl rfl rfl
      · refine g_iconst (pc := 116) (v := 3) dX6_reasonAgainstAppeal_116 (by decide) ?_
        exact g_ireturn (pc := 117) (ty := .int) dX6_reasonAgainstAppeal_117 rfl rfl rfl
    · refine g_iconst (pc := 86) (v := 2) dX6_reasonAgainstAppeal_86 (by decide) ?_
      exact g_ireturn (pc := 87) (ty := .int) dX6_reasonAgainstAppeal_87 rfl rfl rfl
  · refine g_iconst (pc := 16) (v := 1) dX6_reasonAgainstAppeal_16 (by decide) ?_
    exact g_ireturn (pc := 17) (ty := .int) dX6_reasonAgainstAppeal_17 rfl rfl rfl
def f_X6_lot (p0 : Int32) (p1 : Int32) (h : Hst) : Option (Int32 × Hst) :=
  gbv (f_X6_checkLot p0 h) fun h1 =>
  (if p1 = 0 then
    gb (f_X5_get_3 p0 0 h1) fun x3 h2 =>
    (some (x3, h2))
  else
  (if p1 = 1 then
    gb (f_X5_get_3 p0 1 h1) fun x5 h4 =>
    (some (x5, h4))
  else
  (if p1 = 2 then
    gb (f_X5_get_3 p0 2 h1) fun x7 h6 =>
    (some (x7, h6))
  else
  (if p1 = 3 then
    gb (f_X5_get_3 p0 3 h1) fun x9 h8 =>
    (some (x9, h8))
  else
  (if p1 = 4 then
    gb (f_X0_gradeOfLot p0 h1) fun x11 h10 =>
    (some (x11, h10))
  else
  (if p1 = 5 then
    gb (f_X5_get_3 p0 5 h1) fun x13 h12 =>
    (some (x13, h12))
  else
  (if p1 = 6 then
    gb (f_X6_ifPressed p0 1 6 h1) fun x15 h14 =>
    (some (x15, h14))
  else
  (if p1 = 7 then
    gb (f_X6_ifPressed p0 1 8 h1) fun x17 h16 =>
    (some (x17, h16))
  else
  (if p1 = 8 then
    gb (f_X6_ifPressed p0 2 9 h1) fun x19 h18 =>
    (some (x19, h18))
  else
  (if p1 = 9 then
    gb (f_X6_ifPressed p0 1 10 h1) fun x21 h20 =>
    (some (x21, h20))
  else
  (if p1 = 10 then
    gb (f_X6_reasonAgainstAppeal p0 h1) fun x23 h22 =>
    (some (x23, h22))
  else
  none)))))))))))
set_option maxRecDepth 20000 in
theorem ge_X6_lot (γ : Gv) (p0 : Int32) (p1 : Int32) (h : Hst) : G γ RX6 cX6_lot 3 (some .int) [] vI 4 0 0 (lv_args 0 [.ref (gad γ 0), .int p0, .int p1]) [] h (f_X6_lot p0 p1 h) := by
  show G γ RX6 cX6_lot 3 (some .int) [] vI 4 0 0 [(0, .ref (gad γ 0)), (1, .int p0), (2, .int p1)] [] h (f_X6_lot p0 p1 h)
  unfold f_X6_lot
  refine g_aload_n (pc := 0) dX6_lot_0 rfl 0 rfl ?_
  refine g_iload_n (pc := 1) dX6_lot_1 rfl 1 rfl ?_
  refine g_cV (pc := 2) (st := []) (fun r hr => gRunV (As := [.int p0]) 0 (ge_X6_checkLot γ p0 h) hr wv_RX6_171 rfl (Nat.le_of_ble_eq_true rfl) (gat_0 _ _) rfl rfl (Nat.le_of_ble_eq_true rfl) (Nat.le_of_ble_eq_true rfl) dX6_lot_2) (fun h1 => ?_)
  refine g_iload_n (pc := 5) dX6_lot_5 rfl 2 rfl ?_
  refine g_case (c := p1 = 0) (fun c0 => ?_) (fun c0 => ?_)
  · refine g_tswI (pc := 6) (tgt := 64) (off := 58) dX6_lot_6 (by rw [c0]; decide) (by rw [c0]; decide) (by rw [c0]; decide) (by decide) ?_
    refine g_aload_n (pc := 64) dX6_lot_64 rfl 0 rfl ?_
    refine gf_RX6_12_0 (pc := 65) dX6_lot_65 ?_
    refine gf_RX6_182_1 (pc := 68) dX6_lot_68 ?_
    refine g_iload_n (pc := 71) dX6_lot_71 rfl 1 rfl ?_
    refine g_iconst (pc := 72) (v := 0) dX6_lot_72 (by decide) ?_
    refine g_cI (pc := 73) (st := []) (fun r hr => gRunV (As := [.int p0, .int 0]) 3 (ge_X5_get_3 γ p0 0 h1) hr wv_RX6_116 rfl (Nat.le_of_ble_eq_true rfl) (gat_3 _ _) rfl rfl (Nat.le_of_ble_eq_true rfl) (Nat.le_of_ble_eq_true rfl) dX6_lot_73) (fun x3 h2 => ?_)
    exact g_ireturn (pc := 76) (ty := .int) dX6_lot_76 rfl rfl rfl
  refine g_case (c := p1 = 1) (fun c1 => ?_) (fun c1 => ?_)
  · refine g_tswI (pc := 6) (tgt := 77) (off := 71) dX6_lot_6 (by rw [c1]; decide) (by rw [c1]; decide) (by rw [c1]; decide) (by decide) ?_
    refine g_aload_n (pc := 77) dX6_lot_77 rfl 0 rfl ?_
    refine gf_RX6_12_0 (pc := 78) dX6_lot_78 ?_
    refine gf_RX6_182_1 (pc := 81) dX6_lot_81 ?_
    refine g_iload_n (pc := 84) dX6_lot_84 rfl 1 rfl ?_
    refine g_iconst (pc := 85) (v := 1) dX6_lot_85 (by decide) ?_
    refine g_cI (pc := 86) (st := []) (fun r hr => gRunV (As := [.int p0, .int 1]) 3 (ge_X5_get_3 γ p0 1 h1) hr wv_RX6_116 rfl (Nat.le_of_ble_eq_true rfl) (gat_3 _ _) rfl rfl (Nat.le_of_ble_eq_true rfl) (Nat.le_of_ble_eq_true rfl) dX6_lot_86) (fun x5 h4 => ?_)
    exact g_ireturn (pc := 89) (ty := .int) dX6_lot_89 rfl rfl rfl
  refine g_case (c := p1 = 2) (fun c2 => ?_) (fun c2 => ?_)
  · refine g_tswI (pc := 6) (tgt := 90) (off := 84) dX6_lot_6 (by rw [c2]; decide) (by rw [c2]; decide) (by rw [c2]; decide) (by decide) ?_
    refine g_aload_n (pc := 90) dX6_lot_90 rfl 0 rfl ?_
    refine gf_RX6_12_0 (pc := 91) dX6_lot_91 ?_
    refine gf_RX6_182_1 (pc := 94) dX6_lot_94 ?_
    refine g_iload_n (pc := 97) dX6_lot_97 rfl 1 rfl ?_
    refine g_iconst (pc := 98) (v := 2) dX6_lot_98 (by decide) ?_
    refine g_cI (pc := 99) (st := []) (fun r hr => gRunV (As := [.int p0, .int 2]) 3 (ge_X5_get_3 γ p0 2 h1) hr wv_RX6_116 rfl (Nat.le_of_ble_eq_true rfl) (gat_3 _ _) rfl rfl (Nat.le_of_ble_eq_true rfl) (Nat.le_of_ble_eq_true rfl) dX6_lot_99) (fun x7 h6 => ?_)
    exact g_ireturn (pc := 102) (ty := .int) dX6_lot_102 rfl rfl rfl
  refine g_case (c := p1 = 3) (fun c3 => ?_) (fun c3 => ?_)
  · refine g_tswI (pc := 6) (tgt := 103) (off := 97) dX6_lot_6 (by rw [c3]; decide) (by rw [c3]; decide) (by rw [c3]; decide) (by decide) ?_
    refine g_aload_n (pc := 103) dX6_lot_103 rfl 0 rfl ?_
    refine gf_RX6_12_0 (pc := 104) dX6_lot_104 ?_
    refine gf_RX6_182_1 (pc := 107) dX6_lot_107 ?_
    refine g_iload_n (pc := 110) dX6_lot_110 rfl 1 rfl ?_
    refine g_iconst (pc := 111) (v := 3) dX6_lot_111 (by decide) ?_
    refine g_cI (pc := 112) (st := []) (fun r hr => gRunV (As := [.int p0, .int 3]) 3 (ge_X5_get_3 γ p0 3 h1) hr wv_RX6_116 rfl (Nat.le_of_ble_eq_true rfl) (gat_3 _ _) rfl rfl (Nat.le_of_ble_eq_true rfl) (Nat.le_of_ble_eq_true rfl) dX6_lot_112) (fun x9 h8 => ?_)
    exact g_ireturn (pc := 115) (ty := .int) dX6_lot_115 rfl rfl rfl
  refine g_case (c := p1 = 4) (fun c4 => ?_) (fun c4 => ?_)
  · refine g_tswI (pc := 6) (tgt := 116) (off := 110) dX6_lot_6 (by rw [c4]; decide) (by rw [c4]; decide) (by rw [c4]; decide) (by decide) ?_
    refine g_aload_n (pc := 116) dX6_lot_116 rfl 0 rfl ?_
    refine gf_RX6_12_0 (pc := 117) dX6_lot_117 ?_
    refine g_iload_n (pc := 120) dX6_lot_120 rfl 1 rfl ?_
    refine g_cI (pc := 121) (st := []) (fun r hr => gRunV (As := [.int p0]) 1 (ge_X0_gradeOfLot γ p0 h1) hr wv_RX6_187 rfl (Nat.le_of_ble_eq_true rfl) (gat_1 _ _) rfl rfl (Nat.le_of_ble_eq_true rfl) (Nat.le_of_ble_eq_true rfl) dX6_lot_121) (fun x11 h10 => ?_)
    exact g_ireturn (pc := 124) (ty := .int) dX6_lot_124 rfl rfl rfl
  refine g_case (c := p1 = 5) (fun c5 => ?_) (fun c5 => ?_)
  · refine g_tswI (pc := 6) (tgt := 125) (off := 119) dX6_lot_6 (by rw [c5]; decide) (by rw [c5]; decide) (by rw [c5]; decide) (by decide) ?_
    refine g_aload_n (pc := 125) dX6_lot_125 rfl 0 rfl ?_
    refine gf_RX6_12_0 (pc := 126) dX6_lot_126 ?_
    refine gf_RX6_182_1 (pc := 129) dX6_lot_129 ?_
    refine g_iload_n (pc := 132) dX6_lot_132 rfl 1 rfl ?_
    refine g_iconst (pc := 133) (v := 5) dX6_lot_133 (by decide) ?_
    refine g_cI (pc := 134) (st := []) (fun r hr => gRunV (As := [.int p0, .int 5]) 3 (ge_X5_get_3 γ p0 5 h1) hr wv_RX6_116 rfl (Nat.le_of_ble_eq_true rfl) (gat_3 _ _) rfl rfl (Nat.le_of_ble_eq_true rfl) (Nat.le_of_ble_eq_true rfl) dX6_lot_134) (fun x13 h12 => ?_)
    exact g_ireturn (pc := 137) (ty := .int) dX6_lot_137 rfl rfl rfl
  refine g_case (c := p1 = 6) (fun c6 => ?_) (fun c6 => ?_)
  · refine g_tswI (pc := 6) (tgt := 138) (off := 132) dX6_lot_6 (by rw [c6]; decide) (by rw [c6]; decide) (by rw [c6]; decide) (by decide) ?_
    refine g_aload_n (pc := 138) dX6_lot_138 rfl 0 rfl ?_
    refine g_iload_n (pc := 139) dX6_lot_139 rfl 1 rfl ?_
    refine g_iconst (pc := 140) (v := 1) dX6_lot_140 (by decide) ?_
    refine g_bipush (pc := 141) (v := 6) dX6_lot_141 (by decide) ?_
    refine g_cI (pc := 143) (st := []) (fun r hr => gRunV (As := [.int p0, .int 1, .int 6]) 0 (ge_X6_ifPressed γ p0 1 6 h1) hr wv_RX6_274 rfl (Nat.le_of_ble_eq_true rfl) (gat_0 _ _) rfl rfl (Nat.le_of_ble_eq_true rfl) (Nat.le_of_ble_eq_true rfl) dX6_lot_143) (fun x15 h14 => ?_)
    exact g_ireturn (pc := 146) (ty := .int) dX6_lot_146 rfl rfl rfl
  refine g_case (c := p1 = 7) (fun c7 => ?_) (fun c7 => ?_)
  · refine g_tswI (pc := 6) (tgt := 147) (off := 141) dX6_lot_6 (by rw [c7]; decide) (by rw [c7]; decide) (by rw [c7]; decide) (by decide) ?_
    refine g_aload_n (pc := 147) dX6_lot_147 rfl 0 rfl ?_
    refine g_iload_n (pc := 148) dX6_lot_148 rfl 1 rfl ?_
    refine g_iconst (pc := 149) (v := 1) dX6_lot_149 (by decide) ?_
    refine g_bipush (pc := 150) (v := 8) dX6_lot_150 (by decide) ?_
    refine g_cI (pc := 152) (st := []) (fun r hr => gRunV (As := [.int p0, .int 1, .int 8]) 0 (ge_X6_ifPressed γ p0 1 8 h1) hr wv_RX6_274 rfl (Nat.le_of_ble_eq_true rfl) (gat_0 _ _) rfl rfl (Nat.le_of_ble_eq_true rfl) (Nat.le_of_ble_eq_true rfl) dX6_lot_152) (fun x17 h16 => ?_)
    exact g_ireturn (pc := 155) (ty := .int) dX6_lot_155 rfl rfl rfl
  refine g_case (c := p1 = 8) (fun c8 => ?_) (fun c8 => ?_)
  · refine g_tswI (pc := 6) (tgt := 156) (off := 150) dX6_lot_6 (by rw [c8]; decide) (by rw [c8]; decide) (by rw [c8]; decide) (by decide) ?_
    refine g_aload_n (pc := 156) dX6_lot_156 rfl 0 rfl ?_
    refine g_iload_n (pc := 157) dX6_lot_157 rfl 1 rfl ?_
    refine g_iconst (pc := 158) (v := 2) dX6_lot_158 (by decide) ?_
    refine g_bipush (pc := 159) (v := 9) dX6_lot_159 (by decide) ?_
    refine g_cI (pc := 161) (st := []) (fun r hr => gRunV (As := [.int p0, .int 2, .int 9]) 0 (ge_X6_ifPressed γ p0 2 9 h1) hr wv_RX6_274 rfl (Nat.le_of_ble_eq_true rfl) (gat_0 _ _) rfl rfl (Nat.le_of_ble_eq_true rfl) (Nat.le_of_ble_eq_true rfl) dX6_lot_161) (fun x19 h18 => ?_)
    exact g_ireturn (pc := 164) (ty := .int) dX6_lot_164 rfl rfl rfl
  refine g_case (c := p1 = 9) (fun c9 => ?_) (fun c9 => ?_)
  · refine g_tswI (pc := 6) (tgt := 165) (off := 159) dX6_lot_6 (by rw [c9]; decide) (by rw [c9]; decide) (by rw [c9]; decide) (by decide) ?_
    refine g_aload_n (pc := 165) dX6_lot_165 rfl 0 rfl ?_
    refine g_iload_n (pc := 166) dX6_lot_166 rfl 1 rfl ?_
    refine g_iconst (pc := 167) (v := 1) dX6_lot_167 (by decide) ?_
    refine g_bipush (pc := 168) (v := 10) dX6_lot_168 (by decide) ?_
    refine g_cI (pc := 170) (st := []) (fun r hr => gRunV (As := [.int p0, .int 1, .int 10]) 0 (ge_X6_ifPressed γ p0 1 10 h1) hr wv_RX6_274 rfl (Nat.le_of_ble_eq_true rfl) (gat_0 _ _) rfl rfl (Nat.le_of_ble_eq_true rfl) (Nat.le_of_ble_eq_true rfl) dX6_lot_170) (fun x21 h20 => ?_)
    exact g_ireturn (pc := 173) (ty := .int) dX6_lot_173 rfl rfl rfl
  refine g_case (c := p1 = 10) (fun c10 => ?_) (fun c10 => ?_)
  · refine g_tswI (pc := 6) (tgt := 174) (off := 168) dX6_lot_6 (by rw [c10]; decide) (by rw [c10]; decide) (by rw [c10]; decide) (by decide) ?_
    refine g_aload_n (pc := 174) dX6_lot_174 rfl 0 rfl ?_
    refine g_iload_n (pc := 175) dX6_lot_175 rfl 1 rfl ?_
    refine g_cI (pc := 176) (st := []) (fun r hr => gRunV (As := [.int p0]) 0 (ge_X6_reasonAgainstAppeal γ p0 h1) hr wv_RX6_174 rfl (Nat.le_of_ble_eq_true rfl) (gat_0 _ _) rfl rfl (Nat.le_of_ble_eq_true rfl) (Nat.le_of_ble_eq_true rfl) dX6_lot_176) (fun x23 h22 => ?_)
    exact g_ireturn (pc := 179) (ty := .int) dX6_lot_179 rfl rfl rfl
  refine g_tswO (pc := 6) (tgt := 180) dX6_lot_6 (by have k := fun (v : Int32) (n : Int) (e : v.toInt = n) (c : ¬ p1 = v) => gne e c; have k0 := k 0 0 (by decide) c0; have k1 := k 1 1 (by decide) c1; have k2 := k 2 2 (by decide) c2; have k3 := k 3 3 (by decide) c3; have k4 := k 4 4 (by decide) c4; have k5 := k 5 5 (by decide) c5; have k6 := k 6 6 (by decide) c6; have k7 := k 7 7 (by decide) c7; have k8 := k 8 8 (by decide) c8; have k9 := k 9 9 (by decide) c9; have k10 := k 10 10 (by decide) c10; omega) (by decide) ?_
  exact g_none
def jb_X5_put_3_38   (h : Hst) : Option (Hst) :=
  (some h)
def f_X5_put_3 (p0 : Int32) (p1 : Int32) (p2 : Int32) (h : Hst) : Option (Hst) :=
  gl ((32 + (p0 * 11)) + p1) fun x1 =>
  (if x1 < 0 then
    (jb_X5_put_3_38 h)
  else
    (if 553 ≤ x1 then
      (jb_X5_put_3_38 h)
    else
      gck x1 553 (gl (hst h 8 x1.toNatClampNeg p2) fun h2 =>
      (jb_X5_put_3_38 h2))))
set_option maxRecDepth 20000 in
theorem gjb_X5_put_3_38 (γ : Gv)   (h : Hst) : G γ RX5 cX5_put 5 none [] vV 0 0 38 [] [] h (jb_X5_put_3_38 h) := by
  unfold jb_X5_put_3_38
  exact g_return (pc := 38) dX5_put_38 rfl rfl
set_option maxRecDepth 20000 in
theorem ge_X5_put_3 (γ : Gv) (p0 : Int32) (p1 : Int32) (p2 : Int32) (h : Hst) : G γ RX5 cX5_put 5 none [] vV 0 0 0 (lv_args 0 [.ref (gad γ 3), .int p0, .int p1, .int p2]) [] h (f_X5_put_3 p0 p1 p2 h) := by
  show G γ RX5 cX5_put 5 none [] vV 0 0 0 [(0, .ref (gad γ 3)), (1, .int p0), (2, .int p1), (3, .int p2)] [] h (f_X5_put_3 p0 p1 p2 h)
  unfold f_X5_put_3
  refine g_aload_n (pc := 0) dX5_put_0 rfl 0 rfl ?_
  refine gf_RX5_13_3 (pc := 1) dX5_put_1 ?_
  refine g_iload_n (pc := 4) dX5_put_4 rfl 1 rfl ?_
  refine g_aload_n (pc := 5) dX5_put_5 rfl 0 rfl ?_
  refine gf_RX5_17_3 (pc := 6) dX5_put_6 ?_
  refine g_imul (pc := 9) dX5_put_9 ?_
  refine g_iadd (pc := 10) dX5_put_10 ?_
  refine g_iload_n (pc := 11) dX5_put_11 rfl 2 rfl ?_
  refine g_iadd (pc := 12) dX5_put_12 ?_
  refine g_nmi (fun x1 => ?_)
  refine g_istore (pc := 13) (lv' := [(4, .int x1), (0, .ref (gad γ 3)), (1, .int p0), (2, .int p1), (3, .int p2)]) dX5_put_13 (by decide) rfl ?_
  refine g_iload (pc := 15) dX5_put_15 0 rfl ?_
  refine g_if_lt (pc := 17) (tgt := 38) dX5_put_17 (by decide) ?_ ?_
  · exact g_sub [] rfl (gjb_X5_put_3_38 γ h)
  · refine g_iload (pc := 20) dX5_put_20 0 rfl ?_
    refine g_aload_n (pc := 22) dX5_put_22 rfl 1 rfl ?_
    refine gf_RX5_7_3 (pc := 23) dX5_put_23 ?_
    refine g_alen (pc := 26) (n := 0) (v := 553) 8 0 (gat_8 _ _) rfl rfl dX5_put_26 ?_
    refine g_icmp_ge (pc := 27) (tgt := 38) dX5_put_27 (by decide) ?_ ?_
    · exact g_sub [] rfl (gjb_X5_put_3_38 γ h)
    · refine g_aload_n (pc := 30) dX5_put_30 rfl 1 rfl ?_
      refine gf_RX5_7_3 (pc := 31) dX5_put_31 ?_
      refine g_iload (pc := 34) dX5_put_34 0 rfl ?_
      refine g_iload_n (pc := 36) dX5_put_36 rfl 4 rfl ?_
      refine g_iast (pc := 37) 8 (gat_8 _ _) (gset_8 _ _ _) dX5_put_37 ?_
      refine g_nmh (fun h2 => ?_)
      exact g_sub [] rfl (gjb_X5_put_3_38 γ h2)
def jb_X6_settleAppeal_86   (h : Hst) : Option (Hst) :=
  (some h)
def f_X6_settleAppeal (p0 : Int32) (p1 : Int32) (h : Hst) : Option (Hst) :=
  gb (f_X3_get_6 4 h) fun x2 h1 =>
  gbv (f_X5_add_2 p0 2 1 h1) fun h3 =>
  gbv (f_X5_add_2 p0 0 p1 h3) fun h4 =>
  (if x2 ≤ p1 then
    (jb_X6_settleAppeal_86 h4)
  else
    gbv (f_X5_add_2 p0 3 1 h4) fun h5 =>
    gb (f_X5_get_2 p0 0 h5) fun x7 h6 =>
    gbv (f_X5_put_2 p0 0 (if 0 < (x7 - x2) then (x7 - x2) else 0) h6) fun h8 =>
    (jb_X6_settleAppeal_86 h8))
set_option maxRecDepth 20000 in
theorem gjb_X6_settleAppeal_86 (γ : Gv)   (h : Hst) : G γ RX6 cX6_settleAppeal 4 none [] vV 2 0 86 [] [] h (jb_X6_settleAppeal_86 h) := by
  unfold jb_X6_settleAppeal_86
  exact g_return (pc := 86) dX6_settleAppeal_86 rfl rfl
set_option maxRecDepth 20000 in
theorem ge_X6_settleAppeal (γ : Gv) (p0 : Int32) (p1 : Int32) (h : Hst) : G γ RX6 cX6_settleAppeal 4 none [] vV 2 0 0 (lv_args 0 [.ref (gad γ 0), .int p0, .int p1]) [] h (f_X6_settleAppeal p0 p1 h) := by
  show G γ RX6 cX6_settleAppeal 4 none [] vV 2 0 0 [(0, .ref (gad γ 0)), (1, .int p0), (2, .int p1)] [] h (f_X6_settleAppeal p0 p1 h)
  unfold f_X6_settleAppeal
  refine g_aload_n (pc := 0) dX6_settleAppeal_0 rfl 0 rfl ?_
  refine gf_RX6_12_0 (pc := 1) dX6_settleAppeal_1 ?_
  refine gf_RX6_133_1 (pc := 4) dX6_settleAppeal_4 ?_
  refine g_iconst (pc := 7) (v := 4) dX6_settleAppeal_7 (by decide) ?_
  refine g_cI (pc := 8) (st := []) (fun r hr => gRunV (As := [.int 4]) 6 (ge_X3_get_6 γ 4 h) hr wv_RX6_51 rfl (Nat.le_of_ble_eq_true rfl) (gat_6 _ _) rfl rfl (Nat.le_of_ble_eq_true rfl) (Nat.le_of_ble_eq_true rfl) dX6_settleAppeal_8) (fun x2 h1 => ?_)
  refine g_istore_n (pc := 11) (lv' := [(3, .int x2), (0, .ref (gad γ 0)), (1, .int p0), (2, .int p1)]) dX6_settleAppeal_11 rfl (by decide) rfl ?_
  refine g_aload_n (pc := 12) dX6_settleAppeal_12 rfl 1 rfl ?_
  refine gf_RX6_12_0 (pc := 13) dX6_settleAppeal_13 ?_
  refine gf_RX6_200_1 (pc := 16) dX6_settleAppeal_16 ?_
  refine g_iload_n (pc := 19) dX6_settleAppeal_19 rfl 2 rfl ?_
  refine g_iconst (pc := 20) (v := 2) dX6_settleAppeal_20 (by decide) ?_
  refine g_iconst (pc := 21) (v := 1) dX6_settleAppeal_21 (by decide) ?_
  refine g_cV (pc := 22) (st := []) (fun r hr => gRunV (As := [.int p0, .int 2, .int 1]) 2 (ge_X5_add_2 γ p0 2 1 h1) hr wv_RX6_185 rfl (Nat.le_of_ble_eq_true rfl) (gat_2 _ _) rfl rfl (Nat.le_of_ble_eq_true rfl) (Nat.le_of_ble_eq_true rfl) dX6_settleAppeal_22) (fun h3 => ?_)
  refine g_aload_n (pc := 25) dX6_settleAppeal_25 rfl 1 rfl ?_
  refine gf_RX6_12_0 (pc := 26) dX6_settleAppeal_26 ?_
  refine gf_RX6_200_1 (pc := 29) dX6_settleAppeal_29 ?_
  refine g_iload_n (pc := 32) dX6_settleAppeal_32 rfl 2 rfl ?_
  refine g_iconst (pc := 33) (v := 0) dX6_settleAppeal_33 (by decide) ?_
  refine g_iload_n (pc := 34) dX6_settleAppeal_34 rfl 3 rfl ?_
  refine g_cV (pc := 35) (st := []) (fun r hr => gRunV (As := [.int p0, .int 0, .int p1]) 2 (ge_X5_add_2 γ p0 0 p1 h3) hr wv_RX6_185 rfl (Nat.le_of_ble_eq_true rfl) (gat_2 _ _) rfl rfl (Nat.le_of_ble_eq_true rfl) (Nat.le_of_ble_eq_true rfl) dX6_settleAppeal_35) (fun h4 => ?_)
  refine g_iload_n (pc := 38) dX6_settleAppeal_38 rfl 3 rfl ?_
  refine g_iload_n (pc := 39) dX6_settleAppeal_39 rfl 0 rfl ?_
  refine g_icmp_ge (pc := 40) (tgt := 86) dX6_settleAppeal_40 (by decide) ?_ ?_
  · exact g_sub [] rfl (gjb_X6_settleAppeal_86 γ h4)
  · refine g_aload_n (pc := 43) dX6_settleAppeal_43 rfl 1 rfl ?_
    refine gf_RX6_12_0 (pc := 44) dX6_settleAppeal_44 ?_
    refine gf_RX6_200_1 (pc := 47) dX6_settleAppeal_47 ?_
    refine g_iload_n (pc := 50) dX6_settleAppeal_50 rfl 2 rfl ?_
    refine g_iconst (pc := 51) (v := 3) dX6_settleAppeal_51 (by decide) ?_
    refine g_iconst (pc := 52) (v := 1) dX6_settleAppeal_52 (by decide) ?_
    refine g_cV (pc := 53) (st := []) (fun r hr => gRunV (As := [.int p0, .int 3, .int 1]) 2 (ge_X5_add_2 γ p0 3 1 h4) hr wv_RX6_185 rfl (Nat.le_of_ble_eq_true rfl) (gat_2 _ _) rfl rfl (Nat.le_of_ble_eq_true rfl) (Nat.le_of_ble_eq_true rfl) dX6_settleAppeal_53) (fun h5 => ?_)
    refine g_aload_n (pc := 56) dX6_settleAppeal_56 rfl 1 rfl ?_
    refine gf_RX6_12_0 (pc := 57) dX6_settleAppeal_57 ?_
    refine gf_RX6_200_1 (pc := 60) dX6_settleAppeal_60 ?_
    refine g_iload_n (pc := 63) dX6_settleAppeal_63 rfl 2 rfl ?_
    refine g_iconst (pc := 64) (v := 0) dX6_settleAppeal_64 (by decide) ?_
    refine g_iconst (pc := 65) (v := 0) dX6_settleAppeal_65 (by decide) ?_
    refine g_aload_n (pc := 66) dX6_settleAppeal_66 rfl 1 rfl ?_
    refine gf_RX6_12_0 (pc := 67) dX6_settleAppeal_67 ?_
    refine gf_RX6_200_1 (pc := 70) dX6_settleAppeal_70 ?_
    refine g_iload_n (pc := 73) dX6_settleAppeal_73 rfl 2 rfl ?_
    refine g_iconst (pc := 74) (v := 0) dX6_settleAppeal_74 (by decide) ?_
    refine g_cI (pc := 75) (st := [.int 0, .int 0, .int p0, .ref (gad γ 2)]) (fun r hr => gRunV (As := [.int p0, .int 0]) 2 (ge_X5_get_2 γ p0 0 h5) hr wv_RX6_116 rfl (Nat.le_of_ble_eq_true rfl) (gat_2 _ _) rfl rfl (Nat.le_of_ble_eq_true rfl) (Nat.le_of_ble_eq_true rfl) dX6_settleAppeal_75) (fun x7 h6 => ?_)
    refine g_iload_n (pc := 78) dX6_settleAppeal_78 rfl 0 rfl ?_
    refine g_isub (pc := 79) dX6_settleAppeal_79 ?_
    refine g_mmax (pc := 80) wk_RX6_409 wm_max1 wm_2 wm_max3 (Nat.le_of_ble_eq_true rfl) (Nat.le_of_ble_eq_true rfl) dX6_settleAppeal_80 ?_
    refine g_cV (pc := 83) (st := []) (fun r hr => gRunV (As := [.int p0, .int 0, .int (if 0 < (x7 - x2) then (x7 - x2) else 0)]) 2 (ge_X5_put_2 γ p0 0 (if 0 < (x7 - x2) then (x7 - x2) else 0) h6) hr wv_RX6_102 rfl (Nat.le_of_ble_eq_true rfl) (gat_2 _ _) rfl rfl (Nat.le_of_ble_eq_true rfl) (Nat.le_of_ble_eq_true rfl) dX6_settleAppeal_83) (fun h8 => ?_)
    exact g_sub [] rfl (gjb_X6_settleAppeal_86 γ h8)
def f_X6_appeal (p0 : Int32) (h : Hst) : Option (Int32 × Hst) :=
  gbv (f_X6_checkLot p0 h) fun h1 =>
  gb (f_X6_reasonAgainstAppeal p0 h1) fun x3 h2 =>
  (if x3 = 0 then
    gbv (f_X0_save h2) fun h4 =>
    gb (f_X6_secondOilOf p0 h4) fun x6 h5 =>
    gb (f_X5_get_3 p0 1 h5) fun x8 h7 =>
    gbv (f_X5_put_3 p0 5 2 h7) fun h9 =>
    gbv (f_X5_put_3 p0 9 x6 h9) fun h10 =>
    gbv (f_X5_add_5 x8 1 x6 h10) fun h11 =>
    gb (f_X5_get_3 p0 10 h11) fun x13 h12 =>
    gb (f_X0_gradeOfLot p0 h12) fun x15 h14 =>
    gbv (f_X1_pour x13 x8 x6 x15 h14) fun h16 =>
    gb (f_X5_get_3 p0 0 h16) fun x18 h17 =>
    gbv (f_X6_settleAppeal x18 x6 h17) fun h19 =>
    (some (x6, h19))
  else
    none)
set_option maxRecDepth 20000 in
theorem ge_X6_appeal (γ : Gv) (p0 : Int32) (h : Hst) : G γ RX6 cX6_appeal 4 (some .int) [] vI 4 0 0 (lv_args 0 [.ref (gad γ 0), .int p0]) [] h (f_X6_appeal p0 h) := by
  show G γ RX6 cX6_appeal 4 (some .int) [] vI 4 0 0 [(0, .ref (gad γ 0)), (1, .int p0)] [] h (f_X6_appeal p0 h)
  unfold f_X6_appeal
  refine g_aload_n (pc := 0) dX6_appeal_0 rfl 0 rfl ?_
  refine g_iload_n (pc := 1) dX6_appeal_1 rfl 1 rfl ?_
  refine g_cV (pc := 2) (st := []) (fun r hr => gRunV (As := [.int p0]) 0 (ge_X6_checkLot γ p0 h) hr wv_RX6_171 rfl (Nat.le_of_ble_eq_true rfl) (gat_0 _ _) rfl rfl (Nat.le_of_ble_eq_true rfl) (Nat.le_of_ble_eq_true rfl) dX6_appeal_2) (fun h1 => ?_)
  refine g_aload_n (pc := 5) dX6_appeal_5 rfl 0 rfl ?_
  refine g_iload_n (pc := 6) dX6_appeal_6 rfl 1 rfl ?_
  refine g_cI (pc := 7) (st := []) (fun r hr => gRunV (As := [.int p0]) 0 (ge_X6_reasonAgainstAppeal γ p0 h1) hr wv_RX6_174 rfl (Nat.le_of_ble_eq_true rfl) (gat_0 _ _) rfl rfl (Nat.le_of_ble_eq_true rfl) (Nat.le_of_ble_eq_true rfl) dX6_appeal_7) (fun x3 h2 => ?_)
  refine g_if_eq (pc := 10) (tgt := 23) dX6_appeal_10 (by decide) ?_ ?_
  · refine g_aload_n (pc := 23) dX6_appeal_23 rfl 0 rfl ?_
    refine gf_RX6_12_0 (pc := 24) dX6_appeal_24 ?_
    refine g_cV (pc := 27) (st := []) (fun r hr => gRunV (As := []) 1 (ge_X0_save γ h2) hr wv_RX6_64 rfl (Nat.le_of_ble_eq_true rfl) (gat_1 _ _) rfl rfl (Nat.le_of_ble_eq_true rfl) (Nat.le_of_ble_eq_true rfl) dX6_appeal_27) (fun h4 => ?_)
    refine g_aload_n (pc := 30) dX6_appeal_30 rfl 0 rfl ?_
    refine g_iload_n (pc := 31) dX6_appeal_31 rfl 1 rfl ?_
    refine g_cI (pc := 32) (st := []) (fun r hr => gRunV (As := [.int p0]) 0 (ge_X6_secondOilOf γ p0 h4) hr wv_RX6_179 rfl (Nat.le_of_ble_eq_true rfl) (gat_0 _ _) rfl rfl (Nat.le_of_ble_eq_true rfl) (Nat.le_of_ble_eq_true rfl) dX6_appeal_32) (fun x6 h5 => ?_)
    refine g_istore_n (pc := 35) (lv' := [(2, .int x6), (0, .ref (gad γ 0)), (1, .int p0)]) dX6_appeal_35 rfl (by decide) rfl ?_
    refine g_aload_n (pc := 36) dX6_appeal_36 rfl 1 rfl ?_
    refine gf_RX6_12_0 (pc := 37) dX6_appeal_37 ?_
    refine gf_RX6_182_1 (pc := 40) dX6_appeal_40 ?_
    refine g_iload_n (pc := 43) dX6_appeal_43 rfl 2 rfl ?_
    refine g_iconst (pc := 44) (v := 1) dX6_appeal_44 (by decide) ?_
    refine g_cI (pc := 45) (st := []) (fun r hr => gRunV (As := [.int p0, .int 1]) 3 (ge_X5_get_3 γ p0 1 h5) hr wv_RX6_116 rfl (Nat.le_of_ble_eq_true rfl) (gat_3 _ _) rfl rfl (Nat.le_of_ble_eq_true rfl) (Nat.le_of_ble_eq_true rfl) dX6_appeal_45) (fun x8 h7 => ?_)
    refine g_istore_n (pc := 48) (lv' := [(3, .int x8), (2, .int x6), (0, .ref (gad γ 0)), (1, .int p0)]) dX6_appeal_48 rfl (by decide) rfl ?_
    refine g_aload_n (pc := 49) dX6_appeal_49 rfl 2 rfl ?_
    refine gf_RX6_12_0 (pc := 50) dX6_appeal_50 ?_
    refine gf_RX6_182_1 (pc := 53) dX6_appeal_53 ?_
    refine g_iload_n (pc := 56) dX6_appeal_56 rfl 3 rfl ?_
    refine g_iconst (pc := 57) (v := 5) dX6_appeal_57 (by decide) ?_
    refine g_iconst (pc := 58) (v := 2) dX6_appeal_58 (by decide) ?_
    refine g_cV (pc := 59) (st := []) (fun r hr => gRunV (As := [.int p0, .int 5, .int 2]) 3 (ge_X5_put_3 γ p0 5 2 h7) hr wv_RX6_102 rfl (Nat.le_of_ble_eq_true rfl) (gat_3 _ _) rfl rfl (Nat.le_of_ble_eq_true rfl) (Nat.le_of_ble_eq_true rfl) dX6_appeal_59) (fun h9 => ?_)
    refine g_aload_n (pc := 62) dX6_appeal_62 rfl 2 rfl ?_
    refine gf_RX6_12_0 (pc := 63) dX6_appeal_63 ?_
    refine gf_RX6_182_1 (pc := 66) dX6_appeal_66 ?_
    refine g_iload_n (pc := 69) dX6_appeal_69 rfl 3 rfl ?_
    refine g_bipush (pc := 70) (v := 9) dX6_appeal_70 (by decide) ?_
    refine g_iload_n (pc := 72) dX6_appeal_72 rfl 1 rfl ?_
    refine g_cV (pc := 73) (st := []) (fun r hr => gRunV (As := [.int p0, .int 9, .int x6]) 3 (ge_X5_put_3 γ p0 9 x6 h9) hr wv_RX6_102 rfl (Nat.le_of_ble_eq_true rfl) (gat_3 _ _) rfl rfl (Nat.le_of_ble_eq_true rfl) (Nat.le_of_ble_eq_true rfl) dX6_appeal_73) (fun h10 => ?_)
    refine g_aload_n (pc := 76) dX6_appeal_76 rfl 2 rfl ?_
    refine gf_RX6_12_0 (pc := 77) dX6_appeal_77 ?_
    refine gf_RX6_113_1 (pc := 80) dX6_appeal_80 ?_
    refine g_iload_n (pc := 83) dX6_appeal_83 rfl 0 rfl ?_
    refine g_iconst (pc := 84) (v := 1) dX6_appeal_84 (by decide) ?_
    refine g_iload_n (pc := 85) dX6_appeal_85 rfl 1 rfl ?_
    refine g_cV (pc := 86) (st := []) (fun r hr => gRunV (As := [.int x8, .int 1, .int x6]) 5 (ge_X5_add_5 γ x8 1 x6 h10) hr wv_RX6_185 rfl (Nat.le_of_ble_eq_true rfl) (gat_5 _ _) rfl rfl (Nat.le_of_ble_eq_true rfl) (Nat.le_of_ble_eq_true rfl) dX6_appeal_86) (fun h11 => ?_)
    refine g_aload_n (pc := 89) dX6_appeal_89 rfl 2 rfl ?_
    refine gf_RX6_21_0 (pc := 90) dX6_appeal_90 ?_
    refine g_aload_n (pc := 93) dX6_appeal_93 rfl 2 rfl ?_
    refine gf_RX6_12_0 (pc := 94) dX6_appeal_94 ?_
    refine gf_RX6_182_1 (pc := 97) dX6_appeal_97 ?_
    refine g_iload_n (pc := 100) dX6_appeal_100 rfl 3 rfl ?_
    refine g_bipush (pc := 101) (v := 10) dX6_appeal_101 (by decide) ?_
    refine g_cI (pc := 103) (st := [.ref (gad γ 10)]) (fun r hr => gRunV (As := [.int p0, .int 10]) 3 (ge_X5_get_3 γ p0 10 h11) hr wv_RX6_116 rfl (Nat.le_of_ble_eq_true rfl) (gat_3 _ _) rfl rfl (Nat.le_of_ble_eq_true rfl) (Nat.le_of_ble_eq_true rfl) dX6_appeal_103) (fun x13 h12 => ?_)
    refine g_iload_n (pc := 106) dX6_appeal_106 rfl 0 rfl ?_
    refine g_iload_n (pc := 107) dX6_appeal_107 rfl 1 rfl ?_
    refine g_aload_n (pc := 108) dX6_appeal_108 rfl 2 rfl ?_
    refine gf_RX6_12_0 (pc := 109) dX6_appeal_109 ?_
    refine g_iload_n (pc := 112) dX6_appeal_112 rfl 3 rfl ?_
    refine g_cI (pc := 113) (st := [.int x6, .int x8, .int x13, .ref (gad γ 10)]) (fun r hr => gRunV (As := [.int p0]) 1 (ge_X0_gradeOfLot γ p0 h12) hr wv_RX6_187 rfl (Nat.le_of_ble_eq_true rfl) (gat_1 _ _) rfl rfl (Nat.le_of_ble_eq_true rfl) (Nat.le_of_ble_eq_true rfl) dX6_appeal_113) (fun x15 h14 => ?_)
    refine g_cV (pc := 116) (st := []) (fun r hr => gRunV (As := [.int x13, .int x8, .int x6, .int x15]) 10 (ge_X1_pour γ x13 x8 x6 x15 h14) hr wv_RX6_190 rfl (Nat.le_of_ble_eq_true rfl) (gat_10 _ _) rfl rfl (Nat.le_of_ble_eq_true rfl) (Nat.le_of_ble_eq_true rfl) dX6_appeal_116) (fun h16 => ?_)
    refine g_aload_n (pc := 119) dX6_appeal_119 rfl 2 rfl ?_
    refine g_aload_n (pc := 120) dX6_appeal_120 rfl 2 rfl ?_
    refine gf_RX6_12_0 (pc := 121) dX6_appeal_121 ?_
    refine gf_RX6_182_1 (pc := 124) dX6_appeal_124 ?_
    refine g_iload_n (pc := 127) dX6_appeal_127 rfl 3 rfl ?_
    refine g_iconst (pc := 128) (v := 0) dX6_appeal_128 (by decide) ?_
    refine g_cI (pc := 129) (st := [.ref (gad γ 0)]) (fun r hr => gRunV (As := [.int p0, .int 0]) 3 (ge_X5_get_3 γ p0 0 h16) hr wv_RX6_116 rfl (Nat.le_of_ble_eq_true rfl) (gat_3 _ _) rfl rfl (Nat.le_of_ble_eq_true rfl) (Nat.le_of_ble_eq_true rfl) dX6_appeal_129) (fun x18 h17 => ?_)
    refine g_iload_n (pc := 132) dX6_appeal_132 rfl 1 rfl ?_
    refine g_cV (pc := 133) (st := []) (fun r hr => gRunV (As := [.int x18, .int x6]) 0 (ge_X6_settleAppeal γ x18 x6 h17) hr wv_RX6_194 rfl (Nat.le_of_ble_eq_true rfl) (gat_0 _ _) rfl rfl (Nat.le_of_ble_eq_true rfl) (Nat.le_of_ble_eq_true rfl) dX6_appeal_133) (fun h19 => ?_)
    refine g_iload_n (pc := 136) dX6_appeal_136 rfl 1 rfl ?_
    exact g_ireturn (pc := 137) (ty := .int) dX6_appeal_137 rfl rfl rfl
  · exact g_none
def jb_X2_begin_53 (R14 : Int32 → Int32 → Hst → Option (Hst)) (a1 : Int32) (a2 : Int32) (s0 : Int32) (s1 : Int32) (h : Hst) : Option (Hst) :=
  gck s1 40 (gl (hst h 14 s1.toNatClampNeg (vp_nar .boolean s0)) fun h1 =>
  (R14 a1 (a2 + 1) h1))
def jb_X2_begin_52 (R14 : Int32 → Int32 → Hst → Option (Hst)) (a1 : Int32) (a2 : Int32) (s0 : Int32) (h : Hst) : Option (Hst) :=
  (jb_X2_begin_53 R14 a1 a2 0 s0 h)
def lp_X2_begin_14 : Nat → Int32 → Int32 → Hst → Option (Hst)
  | 0, _, _, _ => none
  | n + 1, a1, a2, h =>
    (if 40 ≤ a2 then
      gb (f_X3_get_7 3 h) fun x2 h1 =>
      gl (hst h1 13 2 x2) fun h3 =>
      gb (f_X3_get_7 4 h3) fun x5 h4 =>
      gl (hst h4 13 3 x5) fun h6 =>
      (some h6)
    else
      (if a1 ≤ a2 then
        (jb_X2_begin_52 (lp_X2_begin_14 n) a1 a2 a2 h)
      else
        gb (f_X5_get_3 a2 5 h) fun x8 h7 =>
        (if x8 = 0 then
          (jb_X2_begin_53 (lp_X2_begin_14 n) a1 a2 1 a2 h7)
        else
          (jb_X2_begin_52 (lp_X2_begin_14 n) a1 a2 a2 h7))))
def f_X2_begin  (h : Hst) : Option (Hst) :=
  gb (f_X3_get_7 1 h) fun x2 h1 =>
  (lp_X2_begin_14 FU x2 0 h1)
set_option maxRecDepth 20000 in
theorem gjb_X2_begin_53 (γ : Gv) (R14 : Int32 → Int32 → Hst → Option (Hst)) (hR14 : ∀ (a1 : Int32) (a2 : Int32) (h : Hst), G γ RX2 cX2_begin 3 none [] vV 1 0 14 [(0, .ref (gad γ 13)), (1, .int a1), (2, .int a2)] [] h (R14 a1 a2 h)) (a1 : Int32) (a2 : Int32) (s0 : Int32) (s1 : Int32) (h : Hst) : G γ RX2 cX2_begin 3 none [] vV 1 0 53 [(0, .ref (gad γ 13)), (1, .int a1), (2, .int a2)] [.int s0, .int s1, .ref (gad γ 14)] h (jb_X2_begin_53 R14 a1 a2 s0 s1 h) := by
  unfold jb_X2_begin_53
  refine g_zast (pc := 53) 14 (gat_14 _ _) (gset_14 _ _ _) dX2_begin_53 ?_
  refine g_nmh (fun h1 => ?_)
  refine g_iinc (pc := 54) (q := 2) (v := a2 + 1) (lv' := [(2, .int (a2 + 1)), (0, .ref (gad γ 13)), (1, .int a1)]) dX2_begin_54 rfl rfl (by decide) rfl ?_
  refine g_goto (pc := 57) (tgt := 14) dX2_begin_57 (by decide) ?_
  exact g_sub [1, 2, 0] rfl (hR14 a1 (a2 + 1) h1)
set_option maxRecDepth 20000 in
theorem gjb_X2_begin_52 (γ : Gv) (R14 : Int32 → Int32 → Hst → Option (Hst)) (hR14 : ∀ (a1 : Int32) (a2 : Int32) (h : Hst), G γ RX2 cX2_begin 3 none [] vV 1 0 14 [(0, .ref (gad γ 13)), (1, .int a1), (2, .int a2)] [] h (R14 a1 a2 h)) (a1 : Int32) (a2 : Int32) (s0 : Int32) (h : Hst) : G γ RX2 cX2_begin 3 none [] vV 1 0 52 [(0, .ref (gad γ 13)), (1, .int a1), (2, .int a2)] [.int s0, .ref (gad γ 14)] h (jb_X2_begin_52 R14 a1 a2 s0 h) := by
  unfold jb_X2_begin_52
  refine g_iconst (pc := 52) (v := 0) dX2_begin_52 (by decide) ?_
  exact gjb_X2_begin_53 γ R14 hR14 a1 a2 0 s0 h
set_option maxRecDepth 20000 in
theorem glp_X2_begin_14 (γ : Gv)  : ∀ (n : Nat) (a1 : Int32) (a2 : Int32) (h : Hst), G γ RX2 cX2_begin 3 none [] vV 1 0 14 [(0, .ref (gad γ 13)), (1, .int a1), (2, .int a2)] [] h (lp_X2_begin_14 n a1 a2 h) := by
  intro n
  induction n with
  | zero => intro a1 a2 h; exact g_none
  | succ n ih =>
    intro a1 a2 h
    rw [lp_X2_begin_14]
    refine g_iload_n (pc := 14) dX2_begin_14 rfl 2 rfl ?_
    refine g_aload_n (pc := 15) dX2_begin_15 rfl 0 rfl ?_
    refine gf_RX2_15_13 (pc := 16) dX2_begin_16 ?_
    refine g_alen (pc := 19) (n := 0) (v := 40) 14 1 (gat_14 _ _) rfl rfl dX2_begin_19 ?_
    refine g_icmp_ge (pc := 20) (tgt := 60) dX2_begin_20 (by decide) ?_ ?_
    · refine g_aload_n (pc := 60) dX2_begin_60 rfl 0 rfl ?_
      refine g_aload_n (pc := 61) dX2_begin_61 rfl 0 rfl ?_
      refine gf_RX2_9_13 (pc := 62) dX2_begin_62 ?_
      refine gf_RX2_19_1 (pc := 65) dX2_begin_65 ?_
      refine g_iconst (pc := 68) (v := 3) dX2_begin_68 (by decide) ?_
      refine g_cI (pc := 69) (st := [.ref (gad γ 13)]) (fun r hr => gRunV (As := [.int 3]) 7 (ge_X3_get_7 γ 3 h) hr wv_RX2_25 rfl (Nat.le_of_ble_eq_true rfl) (gat_7 _ _) rfl rfl (Nat.le_of_ble_eq_true rfl) (Nat.le_of_ble_eq_true rfl) dX2_begin_69) (fun x2 h1 => ?_)
      refine pf_RX2_40_13 (pc := 72) dX2_begin_72 ?_
      refine g_nmh (fun h3 => ?_)
      refine g_aload_n (pc := 75) dX2_begin_75 rfl 0 rfl ?_
      refine g_aload_n (pc := 76) dX2_begin_76 rfl 0 rfl ?_
      refine gf_RX2_9_13 (pc := 77) dX2_begin_77 ?_
      refine gf_RX2_19_1 (pc := 80) dX2_begin_80 ?_
      refine g_iconst (pc := 83) (v := 4) dX2_begin_83 (by decide) ?_
      refine g_cI (pc := 84) (st := [.ref (gad γ 13)]) (fun r hr => gRunV (As := [.int 4]) 7 (ge_X3_get_7 γ 4 h3) hr wv_RX2_25 rfl (Nat.le_of_ble_eq_true rfl) (gat_7 _ _) rfl rfl (Nat.le_of_ble_eq_true rfl) (Nat.le_of_ble_eq_true rfl) dX2_begin_84) (fun x5 h4 => ?_)
      refine pf_RX2_44_13 (pc := 87) dX2_begin_87 ?_
      refine g_nmh (fun h6 => ?_)
      exact g_return (pc := 90) dX2_begin_90 rfl rfl
    · refine g_aload_n (pc := 23) dX2_begin_23 rfl 0 rfl ?_
      refine gf_RX2_15_13 (pc := 24) dX2_begin_24 ?_
      refine g_iload_n (pc := 27) dX2_begin_27 rfl 2 rfl ?_
      refine g_iload_n (pc := 28) dX2_begin_28 rfl 2 rfl ?_
      refine g_iload_n (pc := 29) dX2_begin_29 rfl 1 rfl ?_
      refine g_icmp_ge (pc := 30) (tgt := 52) dX2_begin_30 (by decide) ?_ ?_
      · exact gjb_X2_begin_52 γ (lp_X2_begin_14 n) ih a1 a2 a2 h
      · refine g_aload_n (pc := 33) dX2_begin_33 rfl 0 rfl ?_
        refine gf_RX2_9_13 (pc := 34) dX2_begin_34 ?_
        refine gf_RX2_31_1 (pc := 37) dX2_begin_37 ?_
        refine g_iload_n (pc := 40) dX2_begin_40 rfl 2 rfl ?_
        refine g_iconst (pc := 41) (v := 5) dX2_begin_41 (by decide) ?_
        refine g_cI (pc := 42) (st := [.int a2, .ref (gad γ 14)]) (fun r hr => gRunV (As := [.int a2, .int 5]) 3 (ge_X5_get_3 γ a2 5 h) hr wv_RX2_35 rfl (Nat.le_of_ble_eq_true rfl) (gat_3 _ _) rfl rfl (Nat.le_of_ble_eq_true rfl) (Nat.le_of_ble_eq_true rfl) dX2_begin_42) (fun x8 h7 => ?_)
        refine g_if_ne (pc := 45) (tgt := 52) dX2_begin_45 (by decide) ?_ ?_
        · exact gjb_X2_begin_52 γ (lp_X2_begin_14 n) ih a1 a2 a2 h7
        · refine g_iconst (pc := 48) (v := 1) dX2_begin_48 (by decide) ?_
          refine g_goto (pc := 49) (tgt := 53) dX2_begin_49 (by decide) ?_
          exact gjb_X2_begin_53 γ (lp_X2_begin_14 n) ih a1 a2 1 a2 h7
set_option maxRecDepth 20000 in
theorem ge_X2_begin (γ : Gv)  (h : Hst) : G γ RX2 cX2_begin 3 none [] vV 1 0 0 (lv_args 0 [.ref (gad γ 13)]) [] h (f_X2_begin h) := by
  show G γ RX2 cX2_begin 3 none [] vV 1 0 0 [(0, .ref (gad γ 13))] [] h (f_X2_begin h)
  unfold f_X2_begin
  refine g_aload_n (pc := 0) dX2_begin_0 rfl 0 rfl ?_
  refine gf_RX2_9_13 (pc := 1) dX2_begin_1 ?_
  refine gf_RX2_19_1 (pc := 4) dX2_begin_4 ?_
  refine g_iconst (pc := 7) (v := 1) dX2_begin_7 (by decide) ?_
  refine g_cI (pc := 8) (st := []) (fun r hr => gRunV (As := [.int 1]) 7 (ge_X3_get_7 γ 1 h) hr wv_RX2_25 rfl (Nat.le_of_ble_eq_true rfl) (gat_7 _ _) rfl rfl (Nat.le_of_ble_eq_true rfl) (Nat.le_of_ble_eq_true rfl) dX2_begin_8) (fun x2 h1 => ?_)
  refine g_istore_n (pc := 11) (lv' := [(1, .int x2), (0, .ref (gad γ 13))]) dX2_begin_11 rfl (by decide) rfl ?_
  refine g_iconst (pc := 12) (v := 0) dX2_begin_12 (by decide) ?_
  refine g_istore_n (pc := 13) (lv' := [(2, .int 0), (1, .int x2), (0, .ref (gad γ 13))]) dX2_begin_13 rfl (by decide) rfl ?_
  exact g_sub [2, 1, 0] rfl (glp_X2_begin_14 γ FU x2 0 h1)
def lp_X2_lotInTurn_61 : Nat → Int32 → Hst → Option (Int32 × Hst)
  | 0, _, _ => none
  | n + 1, a2, h =>
    (if 40 ≤ a2 then
      (some ((-1), h))
    else
      gck a2 40 ((if (h.1 14 a2.toNatClampNeg) = 0 then
        ((lp_X2_lotInTurn_61 n) (a2 + 1) h)
      else
        (some (a2, h)))))
def jb_X2_lotInTurn_59   (h : Hst) : Option (Int32 × Hst) :=
  (lp_X2_lotInTurn_61 FU 0 h)
def jb_X2_lotInTurn_53 (R14 : Int32 → Hst → Option (Int32 × Hst)) (a2 : Int32) (h : Hst) : Option (Int32 × Hst) :=
  (R14 (a2 + 1) h)
def lp_X2_lotInTurn_14 : Nat → Int32 → Hst → Option (Int32 × Hst)
  | 0, _, _ => none
  | n + 1, a2, h =>
    (if 40 ≤ a2 then
      (jb_X2_lotInTurn_59 h)
    else
      gck a2 40 ((if (h.1 14 a2.toNatClampNeg) = 0 then
        (jb_X2_lotInTurn_53 (lp_X2_lotInTurn_14 n) a2 h)
      else
        gb (f_X5_get_3 a2 1 h) fun x2 h1 =>
        (if x2 = (h1.1 13 2) then
          (some (a2, h1))
        else
          (jb_X2_lotInTurn_53 (lp_X2_lotInTurn_14 n) a2 h1)))))
def f_X2_lotInTurn (p0 : Int32) (h : Hst) : Option (Int32 × Hst) :=
  (if p0 = 1 then
    (if (h.1 13 3) ≤ 0 then
      (jb_X2_lotInTurn_59 h)
    else
      (lp_X2_lotInTurn_14 FU 0 h))
  else
    (jb_X2_lotInTurn_59 h))
set_option maxRecDepth 20000 in
theorem glp_X2_lotInTurn_61 (γ : Gv)  : ∀ (n : Nat) (a2 : Int32) (h : Hst), G γ RX2 cX2_lotInTurn 3 (some .int) [] vI 1 0 61 [(0, .ref (gad γ 13)), (2, .int a2)] [] h (lp_X2_lotInTurn_61 n a2 h) := by
  intro n
  induction n with
  | zero => intro a2 h; exact g_none
  | succ n ih =>
    intro a2 h
    rw [lp_X2_lotInTurn_61]
    refine g_iload_n (pc := 61) dX2_lotInTurn_61 rfl 1 rfl ?_
    refine g_aload_n (pc := 62) dX2_lotInTurn_62 rfl 0 rfl ?_
    refine gf_RX2_15_13 (pc := 63) dX2_lotInTurn_63 ?_
    refine g_alen (pc := 66) (n := 0) (v := 40) 14 1 (gat_14 _ _) rfl rfl dX2_lotInTurn_66 ?_
    refine g_icmp_ge (pc := 67) (tgt := 87) dX2_lotInTurn_67 (by decide) ?_ ?_
    · refine g_iconst (pc := 87) (v := (-1)) dX2_lotInTurn_87 (by decide) ?_
      exact g_ireturn (pc := 88) (ty := .int) dX2_lotInTurn_88 rfl rfl rfl
    · refine g_aload_n (pc := 70) dX2_lotInTurn_70 rfl 0 rfl ?_
      refine gf_RX2_15_13 (pc := 71) dX2_lotInTurn_71 ?_
      refine g_iload_n (pc := 74) dX2_lotInTurn_74 rfl 1 rfl ?_
      refine g_zald (pc := 75) 14 (gat_14 _ _) dX2_lotInTurn_75 ?_
      refine g_if_eq (pc := 76) (tgt := 81) dX2_lotInTurn_76 (by decide) ?_ ?_
      · refine g_iinc (pc := 81) (q := 1) (v := a2 + 1) (lv' := [(2, .int (a2 + 1)), (0, .ref (gad γ 13))]) dX2_lotInTurn_81 rfl rfl (by decide) rfl ?_
        refine g_goto (pc := 84) (tgt := 61) dX2_lotInTurn_84 (by decide) ?_
        exact g_sub [1, 0] rfl (ih (a2 + 1) h)
      · refine g_iload_n (pc := 79) dX2_lotInTurn_79 rfl 1 rfl ?_
        exact g_ireturn (pc := 80) (ty := .int) dX2_lotInTurn_80 rfl rfl rfl
set_option maxRecDepth 20000 in
theorem gjb_X2_lotInTurn_59 (γ : Gv)   (h : Hst) : G γ RX2 cX2_lotInTurn 3 (some .int) [] vI 1 0 59 [(0, .ref (gad γ 13))] [] h (jb_X2_lotInTurn_59 h) := by
  unfold jb_X2_lotInTurn_59
  refine g_iconst (pc := 59) (v := 0) dX2_lotInTurn_59 (by decide) ?_
  refine g_istore_n (pc := 60) (lv' := [(2, .int 0), (0, .ref (gad γ 13))]) dX2_lotInTurn_60 rfl (by decide) rfl ?_
  exact g_sub [1, 0] rfl (glp_X2_lotInTurn_61 γ FU 0 h)
set_option maxRecDepth 20000 in
theorem gjb_X2_lotInTurn_53 (γ : Gv) (R14 : Int32 → Hst → Option (Int32 × Hst)) (hR14 : ∀ (a2 : Int32) (h : Hst), G γ RX2 cX2_lotInTurn 3 (some .int) [] vI 1 0 14 [(0, .ref (gad γ 13)), (2, .int a2)] [] h (R14 a2 h)) (a2 : Int32) (h : Hst) : G γ RX2 cX2_lotInTurn 3 (some .int) [] vI 1 0 53 [(0, .ref (gad γ 13)), (2, .int a2)] [] h (jb_X2_lotInTurn_53 R14 a2 h) := by
  unfold jb_X2_lotInTurn_53
  refine g_iinc (pc := 53) (q := 1) (v := a2 + 1) (lv' := [(2, .int (a2 + 1)), (0, .ref (gad γ 13))]) dX2_lotInTurn_53 rfl rfl (by decide) rfl ?_
  refine g_goto (pc := 56) (tgt := 14) dX2_lotInTurn_56 (by decide) ?_
  exact g_sub [1, 0] rfl (hR14 (a2 + 1) h)
set_option maxRecDepth 20000 in
theorem glp_X2_lotInTurn_14 (γ : Gv)  : ∀ (n : Nat) (a2 : Int32) (h : Hst), G γ RX2 cX2_lotInTurn 3 (some .int) [] vI 1 0 14 [(0, .ref (gad γ 13)), (2, .int a2)] [] h (lp_X2_lotInTurn_14 n a2 h) := by
  intro n
  induction n with
  | zero => intro a2 h; exact g_none
  | succ n ih =>
    intro a2 h
    rw [lp_X2_lotInTurn_14]
    refine g_iload_n (pc := 14) dX2_lotInTurn_14 rfl 1 rfl ?_
    refine g_aload_n (pc := 15) dX2_lotInTurn_15 rfl 0 rfl ?_
    refine gf_RX2_15_13 (pc := 16) dX2_lotInTurn_16 ?_
    refine g_alen (pc := 19) (n := 0) (v := 40) 14 1 (gat_14 _ _) rfl rfl dX2_lotInTurn_19 ?_
    refine g_icmp_ge (pc := 20) (tgt := 59) dX2_lotInTurn_20 (by decide) ?_ ?_
    · exact g_sub [0] rfl (gjb_X2_lotInTurn_59 γ h)
    · refine g_aload_n (pc := 23) dX2_lotInTurn_23 rfl 0 rfl ?_
      refine gf_RX2_15_13 (pc := 24) dX2_lotInTurn_24 ?_
      refine g_iload_n (pc := 27) dX2_lotInTurn_27 rfl 1 rfl ?_
      refine g_zald (pc := 28) 14 (gat_14 _ _) dX2_lotInTurn_28 ?_
      refine g_if_eq (pc := 29) (tgt := 53) dX2_lotInTurn_29 (by decide) ?_ ?_
      · exact gjb_X2_lotInTurn_53 γ (lp_X2_lotInTurn_14 n) ih a2 h
      · refine g_aload_n (pc := 32) dX2_lotInTurn_32 rfl 0 rfl ?_
        refine gf_RX2_9_13 (pc := 33) dX2_lotInTurn_33 ?_
        refine gf_RX2_31_1 (pc := 36) dX2_lotInTurn_36 ?_
        refine g_iload_n (pc := 39) dX2_lotInTurn_39 rfl 1 rfl ?_
        refine g_iconst (pc := 40) (v := 1) dX2_lotInTurn_40 (by decide) ?_
        refine g_cI (pc := 41) (st := []) (fun r hr => gRunV (As := [.int a2, .int 1]) 3 (ge_X5_get_3 γ a2 1 h) hr wv_RX2_35 rfl (Nat.le_of_ble_eq_true rfl) (gat_3 _ _) rfl rfl (Nat.le_of_ble_eq_true rfl) (Nat.le_of_ble_eq_true rfl) dX2_lotInTurn_41) (fun x2 h1 => ?_)
        refine g_aload_n (pc := 44) dX2_lotInTurn_44 rfl 0 rfl ?_
        refine gf_RX2_40_13 (pc := 45) dX2_lotInTurn_45 ?_
        refine g_icmp_ne (pc := 48) (tgt := 53) dX2_lotInTurn_48 (by decide) ?_ ?_
        · exact gjb_X2_lotInTurn_53 γ (lp_X2_lotInTurn_14 n) ih a2 h1
        · refine g_iload_n (pc := 51) dX2_lotInTurn_51 rfl 1 rfl ?_
          exact g_ireturn (pc := 52) (ty := .int) dX2_lotInTurn_52 rfl rfl rfl
set_option maxRecDepth 20000 in
theorem ge_X2_lotInTurn (γ : Gv) (p0 : Int32) (h : Hst) : G γ RX2 cX2_lotInTurn 3 (some .int) [] vI 1 0 0 (lv_args 0 [.ref (gad γ 13), .int p0]) [] h (f_X2_lotInTurn p0 h) := by
  show G γ RX2 cX2_lotInTurn 3 (some .int) [] vI 1 0 0 [(0, .ref (gad γ 13)), (1, .int p0)] [] h (f_X2_lotInTurn p0 h)
  unfold f_X2_lotInTurn
  refine g_iload_n (pc := 0) dX2_lotInTurn_0 rfl 1 rfl ?_
  refine g_iconst (pc := 1) (v := 1) dX2_lotInTurn_1 (by decide) ?_
  refine g_icmp_ne (pc := 2) (tgt := 59) dX2_lotInTurn_2 (by decide) ?_ ?_
  · exact g_sub [0] rfl (gjb_X2_lotInTurn_59 γ h)
  · refine g_aload_n (pc := 5) dX2_lotInTurn_5 rfl 0 rfl ?_
    refine gf_RX2_44_13 (pc := 6) dX2_lotInTurn_6 ?_
    refine g_if_le (pc := 9) (tgt := 59) dX2_lotInTurn_9 (by decide) ?_ ?_
    · exact g_sub [0] rfl (gjb_X2_lotInTurn_59 γ h)
    · refine g_iconst (pc := 12) (v := 0) dX2_lotInTurn_12 (by decide) ?_
      refine g_istore_n (pc := 13) (lv' := [(2, .int 0), (0, .ref (gad γ 13)), (1, .int p0)]) dX2_lotInTurn_13 rfl (by decide) rfl ?_
      exact g_sub [1, 0] rfl (glp_X2_lotInTurn_14 γ FU 0 h)
def f_X2_weigh  (h : Hst) : Option (Hst) :=
  gb (f_X5_get_3 (h.1 13 5) 1 h) fun x2 h1 =>
  gb (f_X5_get_5 x2 0 h1) fun x4 h3 =>
  gb (f_X5_get_3 (h3.1 13 5) 2 h3) fun x6 h5 =>
  gdz 100 (gl (hst h5 13 6 ((x6 * x4) / 100)) fun h7 =>
  gb (f_X5_get_3 (h7.1 13 5) 4 h7) fun x9 h8 =>
  gdz 1000 (gl (hst h8 13 7 (((h7.1 13 6) * x9) / 1000)) fun h10 =>
  gb (f_X3_get_6 1 h10) fun x12 h11 =>
  gdz 1000 (gl (hst h11 13 8 (((h10.1 13 7) * x12) / 1000)) fun h13 =>
  (some h13))))
set_option maxRecDepth 20000 in
theorem ge_X2_weigh (γ : Gv)  (h : Hst) : G γ RX2 cX2_weigh 2 none [] vV 1 0 0 (lv_args 0 [.ref (gad γ 13)]) [] h (f_X2_weigh h) := by
  show G γ RX2 cX2_weigh 2 none [] vV 1 0 0 [(0, .ref (gad γ 13))] [] h (f_X2_weigh h)
  unfold f_X2_weigh
  refine g_aload_n (pc := 0) dX2_weigh_0 rfl 0 rfl ?_
  refine gf_RX2_9_13 (pc := 1) dX2_weigh_1 ?_
  refine gf_RX2_70_1 (pc := 4) dX2_weigh_4 ?_
  refine g_aload_n (pc := 7) dX2_weigh_7 rfl 0 rfl ?_
  refine gf_RX2_9_13 (pc := 8) dX2_weigh_8 ?_
  refine gf_RX2_31_1 (pc := 11) dX2_weigh_11 ?_
  refine g_aload_n (pc := 14) dX2_weigh_14 rfl 0 rfl ?_
  refine gf_RX2_60_13 (pc := 15) dX2_weigh_15 ?_
  refine g_iconst (pc := 18) (v := 1) dX2_weigh_18 (by decide) ?_
  refine g_cI (pc := 19) (st := [.ref (gad γ 5)]) (fun r hr => gRunV (As := [.int (h.1 13 5), .int 1]) 3 (ge_X5_get_3 γ (h.1 13 5) 1 h) hr wv_RX2_35 rfl (Nat.le_of_ble_eq_true rfl) (gat_3 _ _) rfl rfl (Nat.le_of_ble_eq_true rfl) (Nat.le_of_ble_eq_true rfl) dX2_weigh_19) (fun x2 h1 => ?_)
  refine g_iconst (pc := 22) (v := 0) dX2_weigh_22 (by decide) ?_
  refine g_cI (pc := 23) (st := []) (fun r hr => gRunV (As := [.int x2, .int 0]) 5 (ge_X5_get_5 γ x2 0 h1) hr wv_RX2_35 rfl (Nat.le_of_ble_eq_true rfl) (gat_5 _ _) rfl rfl (Nat.le_of_ble_eq_true rfl) (Nat.le_of_ble_eq_true rfl) dX2_weigh_23) (fun x4 h3 => ?_)
  refine g_istore_n (pc := 26) (lv' := [(1, .int x4), (0, .ref (gad γ 13))]) dX2_weigh_26 rfl (by decide) rfl ?_
  refine g_aload_n (pc := 27) dX2_weigh_27 rfl 1 rfl ?_
  refine g_aload_n (pc := 28) dX2_weigh_28 rfl 1 rfl ?_
  refine gf_RX2_9_13 (pc := 29) dX2_weigh_29 ?_
  refine gf_RX2_31_1 (pc := 32) dX2_weigh_32 ?_
  refine g_aload_n (pc := 35) dX2_weigh_35 rfl 1 rfl ?_
  refine gf_RX2_60_13 (pc := 36) dX2_weigh_36 ?_
  refine g_iconst (pc := 39) (v := 2) dX2_weigh_39 (by decide) ?_
  refine g_cI (pc := 40) (st := [.ref (gad γ 13)]) (fun r hr => gRunV (As := [.int (h3.1 13 5), .int 2]) 3 (ge_X5_get_3 γ (h3.1 13 5) 2 h3) hr wv_RX2_35 rfl (Nat.le_of_ble_eq_true rfl) (gat_3 _ _) rfl rfl (Nat.le_of_ble_eq_true rfl) (Nat.le_of_ble_eq_true rfl) dX2_weigh_40) (fun x6 h5 => ?_)
  refine g_iload_n (pc := 43) dX2_weigh_43 rfl 0 rfl ?_
  refine g_imul (pc := 44) dX2_weigh_44 ?_
  refine g_bipush (pc := 45) (v := 100) dX2_weigh_45 (by decide) ?_
  refine g_idiv (pc := 47) dX2_weigh_47 ?_
  refine pf_RX2_73_13 (pc := 48) dX2_weigh_48 ?_
  refine g_nmh (fun h7 => ?_)
  refine g_aload_n (pc := 51) dX2_weigh_51 rfl 1 rfl ?_
  refine g_aload_n (pc := 52) dX2_weigh_52 rfl 1 rfl ?_
  refine gf_RX2_73_13 (pc := 53) dX2_weigh_53 ?_
  refine g_aload_n (pc := 56) dX2_weigh_56 rfl 1 rfl ?_
  refine gf_RX2_9_13 (pc := 57) dX2_weigh_57 ?_
  refine gf_RX2_31_1 (pc := 60) dX2_weigh_60 ?_
  refine g_aload_n (pc := 63) dX2_weigh_63 rfl 1 rfl ?_
  refine gf_RX2_60_13 (pc := 64) dX2_weigh_64 ?_
  refine g_iconst (pc := 67) (v := 4) dX2_weigh_67 (by decide) ?_
  refine g_cI (pc := 68) (st := [.int (h7.1 13 6), .ref (gad γ 13)]) (fun r hr => gRunV (As := [.int (h7.1 13 5), .int 4]) 3 (ge_X5_get_3 γ (h7.1 13 5) 4 h7) hr wv_RX2_35 rfl (Nat.le_of_ble_eq_true rfl) (gat_3 _ _) rfl rfl (Nat.le_of_ble_eq_true rfl) (Nat.le_of_ble_eq_true rfl) dX2_weigh_68) (fun x9 h8 => ?_)
  refine g_imul (pc := 71) dX2_weigh_71 ?_
  refine g_sipush (pc := 72) (v := 1000) dX2_weigh_72 (by decide) ?_
  refine g_idiv (pc := 75) dX2_weigh_75 ?_
  refine pf_RX2_76_13 (pc := 76) dX2_weigh_76 ?_
  refine g_nmh (fun h10 => ?_)
  refine g_aload_n (pc := 79) dX2_weigh_79 rfl 1 rfl ?_
  refine g_aload_n (pc := 80) dX2_weigh_80 rfl 1 rfl ?_
  refine gf_RX2_76_13 (pc := 81) dX2_weigh_81 ?_
  refine g_aload_n (pc := 84) dX2_weigh_84 rfl 1 rfl ?_
  refine gf_RX2_9_13 (pc := 85) dX2_weigh_85 ?_
  refine gf_RX2_50_1 (pc := 88) dX2_weigh_88 ?_
  refine g_iconst (pc := 91) (v := 1) dX2_weigh_91 (by decide) ?_
  refine g_cI (pc := 92) (st := [.int (h10.1 13 7), .ref (gad γ 13)]) (fun r hr => gRunV (As := [.int 1]) 6 (ge_X3_get_6 γ 1 h10) hr wv_RX2_25 rfl (Nat.le_of_ble_eq_true rfl) (gat_6 _ _) rfl rfl (Nat.le_of_ble_eq_true rfl) (Nat.le_of_ble_eq_true rfl) dX2_weigh_92) (fun x12 h11 => ?_)
  refine g_imul (pc := 95) dX2_weigh_95 ?_
  refine g_sipush (pc := 96) (v := 1000) dX2_weigh_96 (by decide) ?_
  refine g_idiv (pc := 99) dX2_weigh_99 ?_
  refine pf_RX2_79_13 (pc := 100) dX2_weigh_100 ?_
  refine g_nmh (fun h13 => ?_)
  exact g_return (pc := 103) dX2_weigh_103 rfl rfl
def jb_X2_passThroughMill_71  (a2 : Int32) (a4 : Int32) (s0 : Int32) (h : Hst) : Option (Hst) :=
  gl (hst h 13 10 s0) fun h1 =>
  gl (hst h1 13 4 (h1.1 13 2)) fun h2 =>
  gl (hst h2 13 2 a2) fun h3 =>
  gb (f_X3_get_6 0 h3) fun x5 h4 =>
  gl (hst h4 13 3 (if x5 < a4 then x5 else a4)) fun h6 =>
  gl (hst h6 13 11 (((h6.1 13 10) + a4) - (h6.1 13 3))) fun h7 =>
  (some h7)
def jb_X2_passThroughMill_57  (a1 : Int32) (a2 : Int32) (a3 : Int32) (a4 : Int32) (s0 : Int32) (h : Hst) : Option (Hst) :=
  gl (hst h 13 9 s0) fun h1 =>
  (if a1 = 2 then
    (jb_X2_passThroughMill_71 a2 a4 a3 h1)
  else
    (jb_X2_passThroughMill_71 a2 a4 0 h1))
def jb_X2_passThroughMill_32  (a1 : Int32) (a2 : Int32) (s0 : Int32) (h : Hst) : Option (Hst) :=
  gl (((h.1 13 8) + (h.1 13 3)) - s0) fun x1 =>
  (if a1 = 2 then
    (jb_X2_passThroughMill_57 a1 a2 s0 x1 0 h)
  else
    (jb_X2_passThroughMill_57 a1 a2 s0 x1 s0 h))
def f_X2_passThroughMill (p0 : Int32) (h : Hst) : Option (Hst) :=
  gb (f_X5_get_3 (h.1 13 5) 1 h) fun x2 h1 =>
  (if (h1.1 13 2) = x2 then
    (jb_X2_passThroughMill_32 p0 x2 0 h1)
  else
    (jb_X2_passThroughMill_32 p0 x2 (h1.1 13 3) h1))
set_option maxRecDepth 20000 in
theorem gjb_X2_passThroughMill_71 (γ : Gv)  (a2 : Int32) (a4 : Int32) (s0 : Int32) (h : Hst) : G γ RX2 cX2_passThroughMill 5 none [] vV 1 0 71 [(0, .ref (gad γ 13)), (2, .int a2), (4, .int a4)] [.int s0, .ref (gad γ 13)] h (jb_X2_passThroughMill_71 a2 a4 s0 h) := by
  unfold jb_X2_passThroughMill_71
  refine pf_RX2_85_13 (pc := 71) dX2_passThroughMill_71 ?_
  refine g_nmh (fun h1 => ?_)
  refine g_aload_n (pc := 74) dX2_passThroughMill_74 rfl 0 rfl ?_
  refine g_aload_n (pc := 75) dX2_passThroughMill_75 rfl 0 rfl ?_
  refine gf_RX2_40_13 (pc := 76) dX2_passThroughMill_76 ?_
  refine pf_RX2_88_13 (pc := 79) dX2_passThroughMill_79 ?_
  refine g_nmh (fun h2 => ?_)
  refine g_aload_n (pc := 82) dX2_passThroughMill_82 rfl 0 rfl ?_
  refine g_iload_n (pc := 83) dX2_passThroughMill_83 rfl 1 rfl ?_
  refine pf_RX2_40_13 (pc := 84) dX2_passThroughMill_84 ?_
  refine g_nmh (fun h3 => ?_)
  refine g_aload_n (pc := 87) dX2_passThroughMill_87 rfl 0 rfl ?_
  refine g_iload (pc := 88) dX2_passThroughMill_88 2 rfl ?_
  refine g_aload_n (pc := 90) dX2_passThroughMill_90 rfl 0 rfl ?_
  refine gf_RX2_9_13 (pc := 91) dX2_passThroughMill_91 ?_
  refine gf_RX2_50_1 (pc := 94) dX2_passThroughMill_94 ?_
  refine g_iconst (pc := 97) (v := 0) dX2_passThroughMill_97 (by decide) ?_
  refine g_cI (pc := 98) (st := [.int a4, .ref (gad γ 13)]) (fun r hr => gRunV (As := [.int 0]) 6 (ge_X3_get_6 γ 0 h3) hr wv_RX2_25 rfl (Nat.le_of_ble_eq_true rfl) (gat_6 _ _) rfl rfl (Nat.le_of_ble_eq_true rfl) (Nat.le_of_ble_eq_true rfl) dX2_passThroughMill_98) (fun x5 h4 => ?_)
  refine g_mmin (pc := 101) wk_RX2_91 wm_min1 wm_2 wm_min3 (Nat.le_of_ble_eq_true rfl) (Nat.le_of_ble_eq_true rfl) dX2_passThroughMill_101 ?_
  refine pf_RX2_44_13 (pc := 104) dX2_passThroughMill_104 ?_
  refine g_nmh (fun h6 => ?_)
  refine g_aload_n (pc := 107) dX2_passThroughMill_107 rfl 0 rfl ?_
  refine g_aload_n (pc := 108) dX2_passThroughMill_108 rfl 0 rfl ?_
  refine gf_RX2_85_13 (pc := 109) dX2_passThroughMill_109 ?_
  refine g_iload (pc := 112) dX2_passThroughMill_112 2 rfl ?_
  refine g_iadd (pc := 114) dX2_passThroughMill_114 ?_
  refine g_aload_n (pc := 115) dX2_passThroughMill_115 rfl 0 rfl ?_
  refine gf_RX2_44_13 (pc := 116) dX2_passThroughMill_116 ?_
  refine g_isub (pc := 119) dX2_passThroughMill_119 ?_
  refine pf_RX2_96_13 (pc := 120) dX2_passThroughMill_120 ?_
  refine g_nmh (fun h7 => ?_)
  exact g_return (pc := 123) dX2_passThroughMill_123 rfl rfl
set_option maxRecDepth 20000 in
theorem gjb_X2_passThroughMill_57 (γ : Gv)  (a1 : Int32) (a2 : Int32) (a3 : Int32) (a4 : Int32) (s0 : Int32) (h : Hst) : G γ RX2 cX2_passThroughMill 5 none [] vV 1 0 57 [(0, .ref (gad γ 13)), (1, .int a1), (2, .int a2), (3, .int a3), (4, .int a4)] [.int s0, .ref (gad γ 13)] h (jb_X2_passThroughMill_57 a1 a2 a3 a4 s0 h) := by
  unfold jb_X2_passThroughMill_57
  refine pf_RX2_82_13 (pc := 57) dX2_passThroughMill_57 ?_
  refine g_nmh (fun h1 => ?_)
  refine g_aload_n (pc := 60) dX2_passThroughMill_60 rfl 0 rfl ?_
  refine g_iload_n (pc := 61) dX2_passThroughMill_61 rfl 1 rfl ?_
  refine g_iconst (pc := 62) (v := 2) dX2_passThroughMill_62 (by decide) ?_
  refine g_icmp_ne (pc := 63) (tgt := 70) dX2_passThroughMill_63 (by decide) ?_ ?_
  · refine g_iconst (pc := 70) (v := 0) dX2_passThroughMill_70 (by decide) ?_
    exact g_sub [0, 2, 4] rfl (gjb_X2_passThroughMill_71 γ a2 a4 0 h1)
  · refine g_iload_n (pc := 66) dX2_passThroughMill_66 rfl 3 rfl ?_
    refine g_goto (pc := 67) (tgt := 71) dX2_passThroughMill_67 (by decide) ?_
    exact g_sub [0, 2, 4] rfl (gjb_X2_passThroughMill_71 γ a2 a4 a3 h1)
set_option maxRecDepth 20000 in
theorem gjb_X2_passThroughMill_32 (γ : Gv)  (a1 : Int32) (a2 : Int32) (s0 : Int32) (h : Hst) : G γ RX2 cX2_passThroughMill 5 none [] vV 1 0 32 [(0, .ref (gad γ 13)), (1, .int a1), (2, .int a2)] [.int s0] h (jb_X2_passThroughMill_32 a1 a2 s0 h) := by
  unfold jb_X2_passThroughMill_32
  refine g_istore_n (pc := 32) (lv' := [(3, .int s0), (0, .ref (gad γ 13)), (1, .int a1), (2, .int a2)]) dX2_passThroughMill_32 rfl (by decide) rfl ?_
  refine g_aload_n (pc := 33) dX2_passThroughMill_33 rfl 1 rfl ?_
  refine gf_RX2_79_13 (pc := 34) dX2_passThroughMill_34 ?_
  refine g_aload_n (pc := 37) dX2_passThroughMill_37 rfl 1 rfl ?_
  refine gf_RX2_44_13 (pc := 38) dX2_passThroughMill_38 ?_
  refine g_iadd (pc := 41) dX2_passThroughMill_41 ?_
  refine g_iload_n (pc := 42) dX2_passThroughMill_42 rfl 0 rfl ?_
  refine g_isub (pc := 43) dX2_passThroughMill_43 ?_
  refine g_nmi (fun x1 => ?_)
  refine g_istore (pc := 44) (lv' := [(4, .int x1), (3, .int s0), (0, .ref (gad γ 13)), (1, .int a1), (2, .int a2)]) dX2_passThroughMill_44 (by decide) rfl ?_
  refine g_aload_n (pc := 46) dX2_passThroughMill_46 rfl 2 rfl ?_
  refine g_iload_n (pc := 47) dX2_passThroughMill_47 rfl 3 rfl ?_
  refine g_iconst (pc := 48) (v := 2) dX2_passThroughMill_48 (by decide) ?_
  refine g_icmp_ne (pc := 49) (tgt := 56) dX2_passThroughMill_49 (by decide) ?_ ?_
  · refine g_iload_n (pc := 56) dX2_passThroughMill_56 rfl 1 rfl ?_
    exact g_sub [2, 3, 4, 1, 0] rfl (gjb_X2_passThroughMill_57 γ a1 a2 s0 x1 s0 h)
  · refine g_iconst (pc := 52) (v := 0) dX2_passThroughMill_52 (by decide) ?_
    refine g_goto (pc := 53) (tgt := 57) dX2_passThroughMill_53 (by decide) ?_
    exact g_sub [2, 3, 4, 1, 0] rfl (gjb_X2_passThroughMill_57 γ a1 a2 s0 x1 0 h)
set_option maxRecDepth 20000 in
theorem ge_X2_passThroughMill (γ : Gv) (p0 : Int32) (h : Hst) : G γ RX2 cX2_passThroughMill 5 none [] vV 1 0 0 (lv_args 0 [.ref (gad γ 13), .int p0]) [] h (f_X2_passThroughMill p0 h) := by
  show G γ RX2 cX2_passThroughMill 5 none [] vV 1 0 0 [(0, .ref (gad γ 13)), (1, .int p0)] [] h (f_X2_passThroughMill p0 h)
  unfold f_X2_passThroughMill
  refine g_aload_n (pc := 0) dX2_passThroughMill_0 rfl 0 rfl ?_
  refine gf_RX2_9_13 (pc := 1) dX2_passThroughMill_1 ?_
  refine gf_RX2_31_1 (pc := 4) dX2_passThroughMill_4 ?_
  refine g_aload_n (pc := 7) dX2_passThroughMill_7 rfl 0 rfl ?_
  refine gf_RX2_60_13 (pc := 8) dX2_passThroughMill_8 ?_
  refine g_iconst (pc := 11) (v := 1) dX2_passThroughMill_11 (by decide) ?_
  refine g_cI (pc := 12) (st := []) (fun r hr => gRunV (As := [.int (h.1 13 5), .int 1]) 3 (ge_X5_get_3 γ (h.1 13 5) 1 h) hr wv_RX2_35 rfl (Nat.le_of_ble_eq_true rfl) (gat_3 _ _) rfl rfl (Nat.le_of_ble_eq_true rfl) (Nat.le_of_ble_eq_true rfl) dX2_passThroughMill_12) (fun x2 h1 => ?_)
  refine g_istore_n (pc := 15) (lv' := [(2, .int x2), (0, .ref (gad γ 13)), (1, .int p0)]) dX2_passThroughMill_15 rfl (by decide) rfl ?_
  refine g_aload_n (pc := 16) dX2_passThroughMill_16 rfl 1 rfl ?_
  refine gf_RX2_40_13 (pc := 17) dX2_passThroughMill_17 ?_
  refine g_iload_n (pc := 20) dX2_passThroughMill_20 rfl 0 rfl ?_
  refine g_icmp_ne (pc := 21) (tgt := 28) dX2_passThroughMill_21 (by decide) ?_ ?_
  · refine g_aload_n (pc := 28) dX2_passThroughMill_28 rfl 1 rfl ?_
    refine gf_RX2_44_13 (pc := 29) dX2_passThroughMill_29 ?_
    exact g_sub [1, 2, 0] rfl (gjb_X2_passThroughMill_32 γ p0 x2 (h1.1 13 3) h1)
  · refine g_iconst (pc := 24) (v := 0) dX2_passThroughMill_24 (by decide) ?_
    refine g_goto (pc := 25) (tgt := 32) dX2_passThroughMill_25 (by decide) ?_
    exact g_sub [1, 2, 0] rfl (gjb_X2_passThroughMill_32 γ p0 x2 0 h1)
def jb_X2_step_28   (h : Hst) : Option (Int32 × Hst) :=
  (gzr 0 (some (0, h)))
def f_X2_step (p0 : Int32) (h : Hst) : Option (Int32 × Hst) :=
  gb (f_X2_lotInTurn p0 h) fun x2 h1 =>
  gl (hst h1 13 5 x2) fun h3 =>
  (if (h3.1 13 5) < 0 then
    (jb_X2_step_28 h3)
  else
    (if (h3.1 13 5) < 40 then
      gck (h3.1 13 5) 40 (gl (hst h3 14 (h3.1 13 5).toNatClampNeg (vp_nar .boolean 0)) fun h4 =>
      gbv (f_X2_weigh h4) fun h5 =>
      gbv (f_X2_passThroughMill p0 h5) fun h6 =>
      (gzr 1 (some (1, h6))))
    else
      (jb_X2_step_28 h3)))
set_option maxRecDepth 20000 in
theorem gjb_X2_step_28 (γ : Gv)   (h : Hst) : G γ RX2 cX2_step 2 (some .boolean) [] vI 2 0 28 [] [] h (jb_X2_step_28 h) := by
  unfold jb_X2_step_28
  refine g_iconst (pc := 28) (v := 0) dX2_step_28 (by decide) ?_
  exact g_zreturn (pc := 29) dX2_step_29 rfl rfl
set_option maxRecDepth 20000 in
theorem ge_X2_step (γ : Gv) (p0 : Int32) (h : Hst) : G γ RX2 cX2_step 2 (some .boolean) [] vI 2 0 0 (lv_args 0 [.ref (gad γ 13), .int p0]) [] h (f_X2_step p0 h) := by
  show G γ RX2 cX2_step 2 (some .boolean) [] vI 2 0 0 [(0, .ref (gad γ 13)), (1, .int p0)] [] h (f_X2_step p0 h)
  unfold f_X2_step
  refine g_aload_n (pc := 0) dX2_step_0 rfl 0 rfl ?_
  refine g_aload_n (pc := 1) dX2_step_1 rfl 0 rfl ?_
  refine g_iload_n (pc := 2) dX2_step_2 rfl 1 rfl ?_
  refine g_cI (pc := 3) (st := [.ref (gad γ 13)]) (fun r hr => gRunV (As := [.int p0]) 13 (ge_X2_lotInTurn γ p0 h) hr wv_RX2_57 rfl (Nat.le_of_ble_eq_true rfl) (gat_13 _ _) rfl rfl (Nat.le_of_ble_eq_true rfl) (Nat.le_of_ble_eq_true rfl) dX2_step_3) (fun x2 h1 => ?_)
  refine pf_RX2_60_13 (pc := 6) dX2_step_6 ?_
  refine g_nmh (fun h3 => ?_)
  refine g_aload_n (pc := 9) dX2_step_9 rfl 0 rfl ?_
  refine gf_RX2_60_13 (pc := 10) dX2_step_10 ?_
  refine g_if_lt (pc := 13) (tgt := 28) dX2_step_13 (by decide) ?_ ?_
  · exact g_sub [] rfl (gjb_X2_step_28 γ h3)
  · refine g_aload_n (pc := 16) dX2_step_16 rfl 0 rfl ?_
    refine gf_RX2_60_13 (pc := 17) dX2_step_17 ?_
    refine g_aload_n (pc := 20) dX2_step_20 rfl 0 rfl ?_
    refine gf_RX2_15_13 (pc := 21) dX2_step_21 ?_
    refine g_alen (pc := 24) (n := 0) (v := 40) 14 1 (gat_14 _ _) rfl rfl dX2_step_24 ?_
    refine g_icmp_lt (pc := 25) (tgt := 30) dX2_step_25 (by decide) ?_ ?_
    · refine g_aload_n (pc := 30) dX2_step_30 rfl 0 rfl ?_
      refine gf_RX2_15_13 (pc := 31) dX2_step_31 ?_
      refine g_aload_n (pc := 34) dX2_step_34 rfl 0 rfl ?_
      refine gf_RX2_60_13 (pc := 35) dX2_step_35 ?_
      refine g_iconst (pc := 38) (v := 0) dX2_step_38 (by decide) ?_
      refine g_zast (pc := 39) 14 (gat_14 _ _) (gset_14 _ _ _) dX2_step_39 ?_
      refine g_nmh (fun h4 => ?_)
      refine g_aload_n (pc := 40) dX2_step_40 rfl 0 rfl ?_
      refine g_cV (pc := 41) (st := []) (fun r hr => gRunV (As := []) 13 (ge_X2_weigh γ h4) hr wv_RX2_63 rfl (Nat.le_of_ble_eq_true rfl) (gat_13 _ _) rfl rfl (Nat.le_of_ble_eq_true rfl) (Nat.le_of_ble_eq_true rfl) dX2_step_41) (fun h5 => ?_)
      refine g_aload_n (pc := 44) dX2_step_44 rfl 0 rfl ?_
      refine g_iload_n (pc := 45) dX2_step_45 rfl 1 rfl ?_
      refine g_cV (pc := 46) (st := []) (fun r hr => gRunV (As := [.int p0]) 13 (ge_X2_passThroughMill γ p0 h5) hr wv_RX2_66 rfl (Nat.le_of_ble_eq_true rfl) (gat_13 _ _) rfl rfl (Nat.le_of_ble_eq_true rfl) (Nat.le_of_ble_eq_true rfl) dX2_step_46) (fun h6 => ?_)
      refine g_iconst (pc := 49) (v := 1) dX2_step_49 (by decide) ?_
      exact g_zreturn (pc := 50) dX2_step_50 rfl rfl
    · exact g_sub [] rfl (gjb_X2_step_28 γ h3)
def f_X2_lookAhead  (h : Hst) : Option (Int32 × Hst) :=
  gbv (f_X2_begin h) fun h1 =>
  gb (f_X3_get_6 5 h1) fun x3 h2 =>
  gb (f_X2_step x3 h2) fun x5 h4 =>
  (gzr x5 (some (x5, h4)))
set_option maxRecDepth 20000 in
theorem ge_X2_lookAhead (γ : Gv)  (h : Hst) : G γ RX2 cX2_lookAhead 1 (some .boolean) [] vI 3 0 0 (lv_args 0 [.ref (gad γ 13)]) [] h (f_X2_lookAhead h) := by
  show G γ RX2 cX2_lookAhead 1 (some .boolean) [] vI 3 0 0 [(0, .ref (gad γ 13))] [] h (f_X2_lookAhead h)
  unfold f_X2_lookAhead
  refine g_aload_n (pc := 0) dX2_lookAhead_0 rfl 0 rfl ?_
  refine g_cV (pc := 1) (st := []) (fun r hr => gRunV (As := []) 13 (ge_X2_begin γ h) hr wv_RX2_47 rfl (Nat.le_of_ble_eq_true rfl) (gat_13 _ _) rfl rfl (Nat.le_of_ble_eq_true rfl) (Nat.le_of_ble_eq_true rfl) dX2_lookAhead_1) (fun h1 => ?_)
  refine g_aload_n (pc := 4) dX2_lookAhead_4 rfl 0 rfl ?_
  refine g_aload_n (pc := 5) dX2_lookAhead_5 rfl 0 rfl ?_
  refine gf_RX2_9_13 (pc := 6) dX2_lookAhead_6 ?_
  refine gf_RX2_50_1 (pc := 9) dX2_lookAhead_9 ?_
  refine g_iconst (pc := 12) (v := 5) dX2_lookAhead_12 (by decide) ?_
  refine g_cI (pc := 13) (st := [.ref (gad γ 13)]) (fun r hr => gRunV (As := [.int 5]) 6 (ge_X3_get_6 γ 5 h1) hr wv_RX2_25 rfl (Nat.le_of_ble_eq_true rfl) (gat_6 _ _) rfl rfl (Nat.le_of_ble_eq_true rfl) (Nat.le_of_ble_eq_true rfl) dX2_lookAhead_13) (fun x3 h2 => ?_)
  refine g_cI (pc := 16) (st := []) (fun r hr => gRunV (As := [.int x3]) 13 (ge_X2_step γ x3 h2) hr wv_RX2_53 rfl (Nat.le_of_ble_eq_true rfl) (gat_13 _ _) rfl rfl (Nat.le_of_ble_eq_true rfl) (Nat.le_of_ble_eq_true rfl) dX2_lookAhead_16) (fun x5 h4 => ?_)
  exact g_zreturn (pc := 19) dX2_lookAhead_19 rfl rfl
def jb_X6_reasonAgainstPress_70   (h : Hst) : Option (Int32 × Hst) :=
  (some (0, h))
def f_X6_reasonAgainstPress (p0 : Int32) (p1 : Int32) (h : Hst) : Option (Int32 × Hst) :=
  gb (f_X2_lookAhead h) fun x2 h1 =>
  (if x2 = 0 then
    (some (1, h1))
  else
    gb (f_X1_roomOf p0 h1) fun x4 h3 =>
    (if (h1.1 13 11) ≤ x4 then
      (if (h3.1 13 11) ≤ 0 then
        (jb_X6_reasonAgainstPress_70 h3)
      else
        gb (f_X0_gradeOfLot (h3.1 13 5) h3) fun x6 h5 =>
        gb (f_X1_admits p0 x6 p1 h5) fun x8 h7 =>
        (if x8 = 0 then
          (some (3, h7))
        else
          (jb_X6_reasonAgainstPress_70 h7)))
    else
      (some (2, h3))))
set_option maxRecDepth 20000 in
theorem gjb_X6_reasonAgainstPress_70 (γ : Gv)   (h : Hst) : G γ RX6 cX6_reasonAgainstPress 3 (some .int) [] vI 4 0 70 [] [] h (jb_X6_reasonAgainstPress_70 h) := by
  unfold jb_X6_reasonAgainstPress_70
  refine g_iconst (pc := 70) (v := 0) dX6_reasonAgainstPress_70 (by decide) ?_
  exact g_ireturn (pc := 71) (ty := .int) dX6_reasonAgainstPress_71 rfl rfl rfl
set_option maxRecDepth 20000 in
theorem ge_X6_reasonAgainstPress (γ : Gv) (p0 : Int32) (p1 : Int32) (h : Hst) : G γ RX6 cX6_reasonAgainstPress 3 (some .int) [] vI 4 0 0 (lv_args 0 [.ref (gad γ 0), .int p0, .int p1]) [] h (f_X6_reasonAgainstPress p0 p1 h) := by
  show G γ RX6 cX6_reasonAgainstPress 3 (some .int) [] vI 4 0 0 [(0, .ref (gad γ 0)), (1, .int p0), (2, .int p1)] [] h (f_X6_reasonAgainstPress p0 p1 h)
  unfold f_X6_reasonAgainstPress
  refine g_aload_n (pc := 0) dX6_reasonAgainstPress_0 rfl 0 rfl ?_
  refine gf_RX6_28_0 (pc := 1) dX6_reasonAgainstPress_1 ?_
  refine g_cI (pc := 4) (st := []) (fun r hr => gRunV (As := []) 13 (ge_X2_lookAhead γ h) hr wv_RX6_302 rfl (Nat.le_of_ble_eq_true rfl) (gat_13 _ _) rfl rfl (Nat.le_of_ble_eq_true rfl) (Nat.le_of_ble_eq_true rfl) dX6_reasonAgainstPress_4) (fun x2 h1 => ?_)
  refine g_if_ne (pc := 7) (tgt := 12) dX6_reasonAgainstPress_7 (by decide) ?_ ?_
  · refine g_aload_n (pc := 12) dX6_reasonAgainstPress_12 rfl 0 rfl ?_
    refine gf_RX6_28_0 (pc := 13) dX6_reasonAgainstPress_13 ?_
    refine gf_RX6_308_13 (pc := 16) dX6_reasonAgainstPress_16 ?_
    refine g_aload_n (pc := 19) dX6_reasonAgainstPress_19 rfl 0 rfl ?_
    refine gf_RX6_21_0 (pc := 20) dX6_reasonAgainstPress_20 ?_
    refine g_iload_n (pc := 23) dX6_reasonAgainstPress_23 rfl 1 rfl ?_
    refine g_cI (pc := 24) (st := [.int (h1.1 13 11)]) (fun r hr => gRunV (As := [.int p0]) 10 (ge_X1_roomOf γ p0 h1) hr wv_RX6_219 rfl (Nat.le_of_ble_eq_true rfl) (gat_10 _ _) rfl rfl (Nat.le_of_ble_eq_true rfl) (Nat.le_of_ble_eq_true rfl) dX6_reasonAgainstPress_24) (fun x4 h3 => ?_)
    refine g_icmp_le (pc := 27) (tgt := 32) dX6_reasonAgainstPress_27 (by decide) ?_ ?_
    · refine g_aload_n (pc := 32) dX6_reasonAgainstPress_32 rfl 0 rfl ?_
      refine gf_RX6_28_0 (pc := 33) dX6_reasonAgainstPress_33 ?_
      refine gf_RX6_308_13 (pc := 36) dX6_reasonAgainstPress_36 ?_
      refine g_if_le (pc := 39) (tgt := 70) dX6_reasonAgainstPress_39 (by decide) ?_ ?_
      · exact g_sub [] rfl (gjb_X6_reasonAgainstPress_70 γ h3)
      · refine g_aload_n (pc := 42) dX6_reasonAgainstPress_42 rfl 0 rfl ?_
        refine gf_RX6_21_0 (pc := 43) dX6_reasonAgainstPress_43 ?_
        refine g_iload_n (pc := 46) dX6_reasonAgainstPress_46 rfl 1 rfl ?_
        refine g_aload_n (pc := 47) dX6_reasonAgainstPress_47 rfl 0 rfl ?_
        refine gf_RX6_12_0 (pc := 48) dX6_reasonAgainstPress_48 ?_
        refine g_aload_n (pc := 51) dX6_reasonAgainstPress_51 rfl 0 rfl ?_
        refine gf_RX6_28_0 (pc := 52) dX6_reasonAgainstPress_52 ?_
        refine gf_RX6_168_13 (pc := 55) dX6_reasonAgainstPress_55 ?_
        refine g_cI (pc := 58) (st := [.int p0, .ref (gad γ 10)]) (fun r hr => gRunV (As := [.int (h3.1 13 5)]) 1 (ge_X0_gradeOfLot γ (h3.1 13 5) h3) hr wv_RX6_187 rfl (Nat.le_of_ble_eq_true rfl) (gat_1 _ _) rfl rfl (Nat.le_of_ble_eq_true rfl) (Nat.le_of_ble_eq_true rfl) dX6_reasonAgainstPress_58) (fun x6 h5 => ?_)
        refine g_iload_n (pc := 61) dX6_reasonAgainstPress_61 rfl 2 rfl ?_
        refine g_cI (pc := 62) (st := []) (fun r hr => gRunV (As := [.int p0, .int x6, .int p1]) 10 (ge_X1_admits γ p0 x6 p1 h5) hr wv_RX6_222 rfl (Nat.le_of_ble_eq_true rfl) (gat_10 _ _) rfl rfl (Nat.le_of_ble_eq_true rfl) (Nat.le_of_ble_eq_true rfl) dX6_reasonAgainstPress_62) (fun x8 h7 => ?_)
        refine g_if_ne (pc := 65) (tgt := 70) dX6_reasonAgainstPress_65 (by decide) ?_ ?_
        · exact g_sub [] rfl (gjb_X6_reasonAgainstPress_70 γ h7)
        · refine g_iconst (pc := 68) (v := 3) dX6_reasonAgainstPress_68 (by decide) ?_
          exact g_ireturn (pc := 69) (ty := .int) dX6_reasonAgainstPress_69 rfl rfl rfl
    · refine g_iconst (pc := 30) (v := 2) dX6_reasonAgainstPress_30 (by decide) ?_
      exact g_ireturn (pc := 31) (ty := .int) dX6_reasonAgainstPress_31 rfl rfl rfl
  · refine g_iconst (pc := 10) (v := 1) dX6_reasonAgainstPress_10 (by decide) ?_
    exact g_ireturn (pc := 11) (ty := .int) dX6_reasonAgainstPress_11 rfl rfl rfl
def f_X6_whyNot (p0 : Int32) (p1 : Int32) (h : Hst) : Option (Int32 × Hst) :=
  gbv (f_X6_checkTank p0 h) fun h1 =>
  gb (f_X6_reasonAgainstPress p0 p1 h1) fun x3 h2 =>
  (some (x3, h2))
set_option maxRecDepth 20000 in
theorem ge_X6_whyNot (γ : Gv) (p0 : Int32) (p1 : Int32) (h : Hst) : G γ RX6 cX6_whyNot 3 (some .int) [] vI 5 0 0 (lv_args 0 [.ref (gad γ 0), .int p0, .int p1]) [] h (f_X6_whyNot p0 p1 h) := by
  show G γ RX6 cX6_whyNot 3 (some .int) [] vI 5 0 0 [(0, .ref (gad γ 0)), (1, .int p0), (2, .int p1)] [] h (f_X6_whyNot p0 p1 h)
  unfold f_X6_whyNot
  refine g_aload_n (pc := 0) dX6_whyNot_0 rfl 0 rfl ?_
  refine g_iload_n (pc := 1) dX6_whyNot_1 rfl 1 rfl ?_
  refine g_cV (pc := 2) (st := []) (fun r hr => gRunV (As := [.int p0]) 0 (ge_X6_checkTank γ p0 h) hr wv_RX6_138 rfl (Nat.le_of_ble_eq_true rfl) (gat_0 _ _) rfl rfl (Nat.le_of_ble_eq_true rfl) (Nat.le_of_ble_eq_true rfl) dX6_whyNot_2) (fun h1 => ?_)
  refine g_aload_n (pc := 5) dX6_whyNot_5 rfl 0 rfl ?_
  refine g_iload_n (pc := 6) dX6_whyNot_6 rfl 1 rfl ?_
  refine g_iload_n (pc := 7) dX6_whyNot_7 rfl 2 rfl ?_
  refine g_cI (pc := 8) (st := []) (fun r hr => gRunV (As := [.int p0, .int p1]) 0 (ge_X6_reasonAgainstPress γ p0 p1 h1) hr wv_RX6_141 rfl (Nat.le_of_ble_eq_true rfl) (gat_0 _ _) rfl rfl (Nat.le_of_ble_eq_true rfl) (Nat.le_of_ble_eq_true rfl) dX6_whyNot_8) (fun x3 h2 => ?_)
  exact g_ireturn (pc := 11) (ty := .int) dX6_whyNot_11 rfl rfl rfl
def f_X6_next (p0 : Int32) (h : Hst) : Option (Int32 × Hst) :=
  gb (f_X6_isOutside p0 0 4 h) fun x2 h1 =>
  (if x2 = 0 then
    gb (f_X2_lookAhead h1) fun x4 h3 =>
    (if x4 = 0 then
      (some ((-1), h3))
    else
      (if p0 = 0 then
        (some (h3.1 13 5, h3))
      else
      (if p0 = 1 then
        (some (h3.1 13 8, h3))
      else
      (if p0 = 2 then
        (some (h3.1 13 11, h3))
      else
      (if p0 = 3 then
        (some (h3.1 13 9, h3))
      else
      (some (h3.1 13 3, h3)))))))
  else
    none)
set_option maxRecDepth 20000 in
theorem ge_X6_next (γ : Gv) (p0 : Int32) (h : Hst) : G γ RX6 cX6_next 2 (some .int) [] vI 4 0 0 (lv_args 0 [.ref (gad γ 0), .int p0]) [] h (f_X6_next p0 h) := by
  show G γ RX6 cX6_next 2 (some .int) [] vI 4 0 0 [(0, .ref (gad γ 0)), (1, .int p0)] [] h (f_X6_next p0 h)
  unfold f_X6_next
  refine g_iload_n (pc := 0) dX6_next_0 rfl 1 rfl ?_
  refine g_iconst (pc := 1) (v := 0) dX6_next_1 (by decide) ?_
  refine g_iconst (pc := 2) (v := 4) dX6_next_2 (by decide) ?_
  refine g_cI (pc := 3) (st := []) (fun r hr => gRunS (As := [.int p0, .int 0, .int 4]) (ge_X6_isOutside γ p0 0 4 h) hr wv_RX6_79 rfl (Nat.le_of_ble_eq_true rfl) rfl (Nat.le_of_ble_eq_true rfl) (Nat.le_of_ble_eq_true rfl) dX6_next_3) (fun x2 h1 => ?_)
  refine g_if_eq (pc := 6) (tgt := 20) dX6_next_6 (by decide) ?_ ?_
  · refine g_aload_n (pc := 20) dX6_next_20 rfl 0 rfl ?_
    refine gf_RX6_28_0 (pc := 21) dX6_next_21 ?_
    refine g_cI (pc := 24) (st := []) (fun r hr => gRunV (As := []) 13 (ge_X2_lookAhead γ h1) hr wv_RX6_302 rfl (Nat.le_of_ble_eq_true rfl) (gat_13 _ _) rfl rfl (Nat.le_of_ble_eq_true rfl) (Nat.le_of_ble_eq_true rfl) dX6_next_24) (fun x4 h3 => ?_)
    refine g_if_ne (pc := 27) (tgt := 32) dX6_next_27 (by decide) ?_ ?_
    · refine g_iload_n (pc := 32) dX6_next_32 rfl 1 rfl ?_
      refine g_case (c := p0 = 0) (fun c0 => ?_) (fun c0 => ?_)
      · refine g_tswI (pc := 33) (tgt := 64) (off := 31) dX6_next_33 (by rw [c0]; decide) (by rw [c0]; decide) (by rw [c0]; decide) (by decide) ?_
        refine g_aload_n (pc := 64) dX6_next_64 rfl 0 rfl ?_
        refine gf_RX6_28_0 (pc := 65) dX6_next_65 ?_
        refine gf_RX6_168_13 (pc := 68) dX6_next_68 ?_
        exact g_ireturn (pc := 71) (ty := .int) dX6_next_71 rfl rfl rfl
      refine g_case (c := p0 = 1) (fun c1 => ?_) (fun c1 => ?_)
      · refine g_tswI (pc := 33) (tgt := 72) (off := 39) dX6_next_33 (by rw [c1]; decide) (by rw [c1]; decide) (by rw [c1]; decide) (by decide) ?_
        refine g_aload_n (pc := 72) dX6_next_72 rfl 0 rfl ?_
        refine gf_RX6_28_0 (pc := 73) dX6_next_73 ?_
        refine gf_RX6_305_13 (pc := 76) dX6_next_76 ?_
        exact g_ireturn (pc := 79) (ty := .int) dX6_next_79 rfl rfl rfl
      refine g_case (c := p0 = 2) (fun c2 => ?_) (fun c2 => ?_)
      · refine g_tswI (pc := 33) (tgt := 80) (off := 47) dX6_next_33 (by rw [c2]; decide) (by rw [c2]; decide) (by rw [c2]; decide) (by decide) ?_
        refine g_aload_n (pc := 80) dX6_next_80 rfl 0 rfl ?_
        refine gf_RX6_28_0 (pc := 81) dX6_next_81 ?_
        refine gf_RX6_308_13 (pc := 84) dX6_next_84 ?_
        exact g_ireturn (pc := 87) (ty := .int) dX6_next_87 rfl rfl rfl
      refine g_case (c := p0 = 3) (fun c3 => ?_) (fun c3 => ?_)
      · refine g_tswI (pc := 33) (tgt := 88) (off := 55) dX6_next_33 (by rw [c3]; decide) (by rw [c3]; decide) (by rw [c3]; decide) (by decide) ?_
        refine g_aload_n (pc := 88) dX6_next_88 rfl 0 rfl ?_
        refine gf_RX6_28_0 (pc := 89) dX6_next_89 ?_
        refine gf_RX6_150_13 (pc := 92) dX6_next_92 ?_
        exact g_ireturn (pc := 95) (ty := .int) dX6_next_95 rfl rfl rfl
      refine g_tswO (pc := 33) (tgt := 96) dX6_next_33 (by have k := fun (v : Int32) (n : Int) (e : v.toInt = n) (c : ¬ p0 = v) => gne e c; have k0 := k 0 0 (by decide) c0; have k1 := k 1 1 (by decide) c1; have k2 := k 2 2 (by decide) c2; have k3 := k 3 3 (by decide) c3; omega) (by decide) ?_
      refine g_aload_n (pc := 96) dX6_next_96 rfl 0 rfl ?_
      refine gf_RX6_28_0 (pc := 97) dX6_next_97 ?_
      refine gf_RX6_165_13 (pc := 100) dX6_next_100 ?_
      exact g_ireturn (pc := 103) (ty := .int) dX6_next_103 rfl rfl rfl
    · refine g_iconst (pc := 30) (v := (-1)) dX6_next_30 (by decide) ?_
      exact g_ireturn (pc := 31) (ty := .int) dX6_next_31 rfl rfl rfl
  · exact g_none
def f_X6_enterPressedLot (p0 : Int32) (h : Hst) : Option (Hst) :=
  gl (h.1 13 5) fun x1 =>
  gbv (f_X5_put_3 x1 5 1 h) fun h2 =>
  gbv (f_X5_put_3 x1 6 (h2.1 13 6) h2) fun h3 =>
  gbv (f_X5_put_3 x1 7 (h3.1 13 7) h3) fun h4 =>
  gbv (f_X5_put_3 x1 8 (h4.1 13 8) h4) fun h5 =>
  gbv (f_X5_put_3 x1 10 p0 h5) fun h6 =>
  gb (f_X5_get_3 x1 0 h6) fun x8 h7 =>
  gbv (f_X5_add_2 x8 0 (h7.1 13 8) h7) fun h9 =>
  gb (f_X5_get_3 x1 1 h9) fun x11 h10 =>
  gbv (f_X5_add_5 x11 1 (h10.1 13 8) h10) fun h12 =>
  (some h12)
set_option maxRecDepth 20000 in
theorem ge_X6_enterPressedLot (γ : Gv) (p0 : Int32) (h : Hst) : G γ RX6 cX6_enterPressedLot 3 none [] vV 2 0 0 (lv_args 0 [.ref (gad γ 0), .int p0]) [] h (f_X6_enterPressedLot p0 h) := by
  show G γ RX6 cX6_enterPressedLot 3 none [] vV 2 0 0 [(0, .ref (gad γ 0)), (1, .int p0)] [] h (f_X6_enterPressedLot p0 h)
  unfold f_X6_enterPressedLot
  refine g_aload_n (pc := 0) dX6_enterPressedLot_0 rfl 0 rfl ?_
  refine gf_RX6_28_0 (pc := 1) dX6_enterPressedLot_1 ?_
  refine gf_RX6_168_13 (pc := 4) dX6_enterPressedLot_4 ?_
  refine g_nmi (fun x1 => ?_)
  refine g_istore_n (pc := 7) (lv' := [(2, .int x1), (0, .ref (gad γ 0)), (1, .int p0)]) dX6_enterPressedLot_7 rfl (by decide) rfl ?_
  refine g_aload_n (pc := 8) dX6_enterPressedLot_8 rfl 1 rfl ?_
  refine gf_RX6_12_0 (pc := 9) dX6_enterPressedLot_9 ?_
  refine gf_RX6_182_1 (pc := 12) dX6_enterPressedLot_12 ?_
  refine g_iload_n (pc := 15) dX6_enterPressedLot_15 rfl 0 rfl ?_
  refine g_iconst (pc := 16) (v := 5) dX6_enterPressedLot_16 (by decide) ?_
  refine g_iconst (pc := 17) (v := 1) dX6_enterPressedLot_17 (by decide) ?_
  refine g_cV (pc := 18) (st := []) (fun r hr => gRunV (As := [.int x1, .int 5, .int 1]) 3 (ge_X5_put_3 γ x1 5 1 h) hr wv_RX6_102 rfl (Nat.le_of_ble_eq_true rfl) (gat_3 _ _) rfl rfl (Nat.le_of_ble_eq_true rfl) (Nat.le_of_ble_eq_true rfl) dX6_enterPressedLot_18) (fun h2 => ?_)
  refine g_aload_n (pc := 21) dX6_enterPressedLot_21 rfl 1 rfl ?_
  refine gf_RX6_12_0 (pc := 22) dX6_enterPressedLot_22 ?_
  refine gf_RX6_182_1 (pc := 25) dX6_enterPressedLot_25 ?_
  refine g_iload_n (pc := 28) dX6_enterPressedLot_28 rfl 0 rfl ?_
  refine g_bipush (pc := 29) (v := 6) dX6_enterPressedLot_29 (by decide) ?_
  refine g_aload_n (pc := 31) dX6_enterPressedLot_31 rfl 1 rfl ?_
  refine gf_RX6_28_0 (pc := 32) dX6_enterPressedLot_32 ?_
  refine gf_RX6_400_13 (pc := 35) dX6_enterPressedLot_35 ?_
  refine g_cV (pc := 38) (st := []) (fun r hr => gRunV (As := [.int x1, .int 6, .int (h2.1 13 6)]) 3 (ge_X5_put_3 γ x1 6 (h2.1 13 6) h2) hr wv_RX6_102 rfl (Nat.le_of_ble_eq_true rfl) (gat_3 _ _) rfl rfl (Nat.le_of_ble_eq_true rfl) (Nat.le_of_ble_eq_true rfl) dX6_enterPressedLot_38) (fun h3 => ?_)
  refine g_aload_n (pc := 41) dX6_enterPressedLot_41 rfl 1 rfl ?_
  refine gf_RX6_12_0 (pc := 42) dX6_enterPressedLot_42 ?_
  refine gf_RX6_182_1 (pc := 45) dX6_enterPressedLot_45 ?_
  refine g_iload_n (pc := 48) dX6_enterPressedLot_48 rfl 0 rfl ?_
  refine g_bipush (pc := 49) (v := 7) dX6_enterPressedLot_49 (by decide) ?_
  refine g_aload_n (pc := 51) dX6_enterPressedLot_51 rfl 1 rfl ?_
  refine gf_RX6_28_0 (pc := 52) dX6_enterPressedLot_52 ?_
  refine gf_RX6_403_13 (pc := 55) dX6_enterPressedLot_55 ?_
  refine g_cV (pc := 58) (st := []) (fun r hr => gRunV (As := [.int x1, .int 7, .int (h3.1 13 7)]) 3 (ge_X5_put_3 γ x1 7 (h3.1 13 7) h3) hr wv_RX6_102 rfl (Nat.le_of_ble_eq_true rfl) (gat_3 _ _) rfl rfl (Nat.le_of_ble_eq_true rfl) (Nat.le_of_ble_eq_true rfl) dX6_enterPressedLot_58) (fun h4 => ?_)
  refine g_aload_n (pc := 61) dX6_enterPressedLot_61 rfl 1 rfl ?_
  refine gf_RX6_12_0 (pc := 62) dX6_enterPressedLot_62 ?_
  refine gf_RX6_182_1 (pc := 65) dX6_enterPressedLot_65 ?_
  refine g_iload_n (pc := 68) dX6_enterPressedLot_68 rfl 0 rfl ?_
  refine g_bipush (pc := 69) (v := 8) dX6_enterPressedLot_69 (by decide) ?_
  refine g_aload_n (pc := 71) dX6_enterPressedLot_71 rfl 1 rfl ?_
  refine gf_RX6_28_0 (pc := 72) dX6_enterPressedLot_72 ?_
  refine gf_RX6_305_13 (pc := 75) dX6_enterPressedLot_75 ?_
  refine g_cV (pc := 78) (st := []) (fun r hr => gRunV (As := [.int x1, .int 8, .int (h4.1 13 8)]) 3 (ge_X5_put_3 γ x1 8 (h4.1 13 8) h4) hr wv_RX6_102 rfl (Nat.le_of_ble_eq_true rfl) (gat_3 _ _) rfl rfl (Nat.le_of_ble_eq_true rfl) (Nat.le_of_ble_eq_true rfl) dX6_enterPressedLot_78) (fun h5 => ?_)
  refine g_aload_n (pc := 81) dX6_enterPressedLot_81 rfl 1 rfl ?_
  refine gf_RX6_12_0 (pc := 82) dX6_enterPressedLot_82 ?_
  refine gf_RX6_182_1 (pc := 85) dX6_enterPressedLot_85 ?_
  refine g_iload_n (pc := 88) dX6_enterPressedLot_88 rfl 0 rfl ?_
  refine g_bipush (pc := 89) (v := 10) dX6_enterPressedLot_89 (by decide) ?_
  refine g_iload_n (pc := 91) dX6_enterPressedLot_91 rfl 2 rfl ?_
  refine g_cV (pc := 92) (st := []) (fun r hr => gRunV (As := [.int x1, .int 10, .int p0]) 3 (ge_X5_put_3 γ x1 10 p0 h5) hr wv_RX6_102 rfl (Nat.le_of_ble_eq_true rfl) (gat_3 _ _) rfl rfl (Nat.le_of_ble_eq_true rfl) (Nat.le_of_ble_eq_true rfl) dX6_enterPressedLot_92) (fun h6 => ?_)
  refine g_aload_n (pc := 95) dX6_enterPressedLot_95 rfl 1 rfl ?_
  refine gf_RX6_12_0 (pc := 96) dX6_enterPressedLot_96 ?_
  refine gf_RX6_200_1 (pc := 99) dX6_enterPressedLot_99 ?_
  refine g_aload_n (pc := 102) dX6_enterPressedLot_102 rfl 1 rfl ?_
  refine gf_RX6_12_0 (pc := 103) dX6_enterPressedLot_103 ?_
  refine gf_RX6_182_1 (pc := 106) dX6_enterPressedLot_106 ?_
  refine g_iload_n (pc := 109) dX6_enterPressedLot_109 rfl 0 rfl ?_
  refine g_iconst (pc := 110) (v := 0) dX6_enterPressedLot_110 (by decide) ?_
  refine g_cI (pc := 111) (st := [.ref (gad γ 2)]) (fun r hr => gRunV (As := [.int x1, .int 0]) 3 (ge_X5_get_3 γ x1 0 h6) hr wv_RX6_116 rfl (Nat.le_of_ble_eq_true rfl) (gat_3 _ _) rfl rfl (Nat.le_of_ble_eq_true rfl) (Nat.le_of_ble_eq_true rfl) dX6_enterPressedLot_111) (fun x8 h7 => ?_)
  refine g_iconst (pc := 114) (v := 0) dX6_enterPressedLot_114 (by decide) ?_
  refine g_aload_n (pc := 115) dX6_enterPressedLot_115 rfl 1 rfl ?_
  refine gf_RX6_28_0 (pc := 116) dX6_enterPressedLot_116 ?_
  refine gf_RX6_305_13 (pc := 119) dX6_enterPressedLot_119 ?_
  refine g_cV (pc := 122) (st := []) (fun r hr => gRunV (As := [.int x8, .int 0, .int (h7.1 13 8)]) 2 (ge_X5_add_2 γ x8 0 (h7.1 13 8) h7) hr wv_RX6_185 rfl (Nat.le_of_ble_eq_true rfl) (gat_2 _ _) rfl rfl (Nat.le_of_ble_eq_true rfl) (Nat.le_of_ble_eq_true rfl) dX6_enterPressedLot_122) (fun h9 => ?_)
  refine g_aload_n (pc := 125) dX6_enterPressedLot_125 rfl 1 rfl ?_
  refine gf_RX6_12_0 (pc := 126) dX6_enterPressedLot_126 ?_
  refine gf_RX6_113_1 (pc := 129) dX6_enterPressedLot_129 ?_
  refine g_aload_n (pc := 132) dX6_enterPressedLot_132 rfl 1 rfl ?_
  refine gf_RX6_12_0 (pc := 133) dX6_enterPressedLot_133 ?_
  refine gf_RX6_182_1 (pc := 136) dX6_enterPressedLot_136 ?_
  refine g_iload_n (pc := 139) dX6_enterPressedLot_139 rfl 0 rfl ?_
  refine g_iconst (pc := 140) (v := 1) dX6_enterPressedLot_140 (by decide) ?_
  refine g_cI (pc := 141) (st := [.ref (gad γ 5)]) (fun r hr => gRunV (As := [.int x1, .int 1]) 3 (ge_X5_get_3 γ x1 1 h9) hr wv_RX6_116 rfl (Nat.le_of_ble_eq_true rfl) (gat_3 _ _) rfl rfl (Nat.le_of_ble_eq_true rfl) (Nat.le_of_ble_eq_true rfl) dX6_enterPressedLot_141) (fun x11 h10 => ?_)
  refine g_iconst (pc := 144) (v := 1) dX6_enterPressedLot_144 (by decide) ?_
  refine g_aload_n (pc := 145) dX6_enterPressedLot_145 rfl 1 rfl ?_
  refine gf_RX6_28_0 (pc := 146) dX6_enterPressedLot_146 ?_
  refine gf_RX6_305_13 (pc := 149) dX6_enterPressedLot_149 ?_
  refine g_cV (pc := 152) (st := []) (fun r hr => gRunV (As := [.int x11, .int 1, .int (h10.1 13 8)]) 5 (ge_X5_add_5 γ x11 1 (h10.1 13 8) h10) hr wv_RX6_185 rfl (Nat.le_of_ble_eq_true rfl) (gat_5 _ _) rfl rfl (Nat.le_of_ble_eq_true rfl) (Nat.le_of_ble_eq_true rfl) dX6_enterPressedLot_152) (fun h12 => ?_)
  exact g_return (pc := 155) dX6_enterPressedLot_155 rfl rfl
def f_X6_pourPressedOil (p0 : Int32) (h : Hst) : Option (Hst) :=
  gl (h.1 13 5) fun x1 =>
  gb (f_X0_gradeOfLot x1 h) fun x3 h2 =>
  gbv (f_X1_pour p0 (h2.1 13 4) (h2.1 13 10) x3 h2) fun h4 =>
  gb (f_X5_get_3 x1 1 h4) fun x6 h5 =>
  gbv (f_X1_pour p0 x6 ((h5.1 13 11) - (h5.1 13 10)) x3 h5) fun h7 =>
  (some h7)
set_option maxRecDepth 20000 in
theorem ge_X6_pourPressedOil (γ : Gv) (p0 : Int32) (h : Hst) : G γ RX6 cX6_pourPressedOil 4 none [] vV 4 0 0 (lv_args 0 [.ref (gad γ 0), .int p0]) [] h (f_X6_pourPressedOil p0 h) := by
  show G γ RX6 cX6_pourPressedOil 4 none [] vV 4 0 0 [(0, .ref (gad γ 0)), (1, .int p0)] [] h (f_X6_pourPressedOil p0 h)
  unfold f_X6_pourPressedOil
  refine g_aload_n (pc := 0) dX6_pourPressedOil_0 rfl 0 rfl ?_
  refine gf_RX6_28_0 (pc := 1) dX6_pourPressedOil_1 ?_
  refine gf_RX6_168_13 (pc := 4) dX6_pourPressedOil_4 ?_
  refine g_nmi (fun x1 => ?_)
  refine g_istore_n (pc := 7) (lv' := [(2, .int x1), (0, .ref (gad γ 0)), (1, .int p0)]) dX6_pourPressedOil_7 rfl (by decide) rfl ?_
  refine g_aload_n (pc := 8) dX6_pourPressedOil_8 rfl 1 rfl ?_
  refine gf_RX6_12_0 (pc := 9) dX6_pourPressedOil_9 ?_
  refine g_iload_n (pc := 12) dX6_pourPressedOil_12 rfl 0 rfl ?_
  refine g_cI (pc := 13) (st := []) (fun r hr => gRunV (As := [.int x1]) 1 (ge_X0_gradeOfLot γ x1 h) hr wv_RX6_187 rfl (Nat.le_of_ble_eq_true rfl) (gat_1 _ _) rfl rfl (Nat.le_of_ble_eq_true rfl) (Nat.le_of_ble_eq_true rfl) dX6_pourPressedOil_13) (fun x3 h2 => ?_)
  refine g_istore_n (pc := 16) (lv' := [(3, .int x3), (2, .int x1), (0, .ref (gad γ 0)), (1, .int p0)]) dX6_pourPressedOil_16 rfl (by decide) rfl ?_
  refine g_aload_n (pc := 17) dX6_pourPressedOil_17 rfl 2 rfl ?_
  refine gf_RX6_21_0 (pc := 18) dX6_pourPressedOil_18 ?_
  refine g_iload_n (pc := 21) dX6_pourPressedOil_21 rfl 3 rfl ?_
  refine g_aload_n (pc := 22) dX6_pourPressedOil_22 rfl 2 rfl ?_
  refine gf_RX6_28_0 (pc := 23) dX6_pourPressedOil_23 ?_
  refine gf_RX6_147_13 (pc := 26) dX6_pourPressedOil_26 ?_
  refine g_aload_n (pc := 29) dX6_pourPressedOil_29 rfl 2 rfl ?_
  refine gf_RX6_28_0 (pc := 30) dX6_pourPressedOil_30 ?_
  refine gf_RX6_406_13 (pc := 33) dX6_pourPressedOil_33 ?_
  refine g_iload_n (pc := 36) dX6_pourPressedOil_36 rfl 0 rfl ?_
  refine g_cV (pc := 37) (st := []) (fun r hr => gRunV (As := [.int p0, .int (h2.1 13 4), .int (h2.1 13 10), .int x3]) 10 (ge_X1_pour γ p0 (h2.1 13 4) (h2.1 13 10) x3 h2) hr wv_RX6_190 rfl (Nat.le_of_ble_eq_true rfl) (gat_10 _ _) rfl rfl (Nat.le_of_ble_eq_true rfl) (Nat.le_of_ble_eq_true rfl) dX6_pourPressedOil_37) (fun h4 => ?_)
  refine g_aload_n (pc := 40) dX6_pourPressedOil_40 rfl 2 rfl ?_
  refine gf_RX6_21_0 (pc := 41) dX6_pourPressedOil_41 ?_
  refine g_iload_n (pc := 44) dX6_pourPressedOil_44 rfl 3 rfl ?_
  refine g_aload_n (pc := 45) dX6_pourPressedOil_45 rfl 2 rfl ?_
  refine gf_RX6_12_0 (pc := 46) dX6_pourPressedOil_46 ?_
  refine gf_RX6_182_1 (pc := 49) dX6_pourPressedOil_49 ?_
  refine g_iload_n (pc := 52) dX6_pourPressedOil_52 rfl 1 rfl ?_
  refine g_iconst (pc := 53) (v := 1) dX6_pourPressedOil_53 (by decide) ?_
  refine g_cI (pc := 54) (st := [.int p0, .ref (gad γ 10)]) (fun r hr => gRunV (As := [.int x1, .int 1]) 3 (ge_X5_get_3 γ x1 1 h4) hr wv_RX6_116 rfl (Nat.le_of_ble_eq_true rfl) (gat_3 _ _) rfl rfl (Nat.le_of_ble_eq_true rfl) (Nat.le_of_ble_eq_true rfl) dX6_pourPressedOil_54) (fun x6 h5 => ?_)
  refine g_aload_n (pc := 57) dX6_pourPressedOil_57 rfl 2 rfl ?_
  refine gf_RX6_28_0 (pc := 58) dX6_pourPressedOil_58 ?_
  refine gf_RX6_308_13 (pc := 61) dX6_pourPressedOil_61 ?_
  refine g_aload_n (pc := 64) dX6_pourPressedOil_64 rfl 2 rfl ?_
  refine gf_RX6_28_0 (pc := 65) dX6_pourPressedOil_65 ?_
  refine gf_RX6_406_13 (pc := 68) dX6_pourPressedOil_68 ?_
  refine g_isub (pc := 71) dX6_pourPressedOil_71 ?_
  refine g_iload_n (pc := 72) dX6_pourPressedOil_72 rfl 0 rfl ?_
  refine g_cV (pc := 73) (st := []) (fun r hr => gRunV (As := [.int p0, .int x6, .int ((h5.1 13 11) - (h5.1 13 10)), .int x3]) 10 (ge_X1_pour γ p0 x6 ((h5.1 13 11) - (h5.1 13 10)) x3 h5) hr wv_RX6_190 rfl (Nat.le_of_ble_eq_true rfl) (gat_10 _ _) rfl rfl (Nat.le_of_ble_eq_true rfl) (Nat.le_of_ble_eq_true rfl) dX6_pourPressedOil_73) (fun h7 => ?_)
  exact g_return (pc := 76) dX6_pourPressedOil_76 rfl rfl
def f_X6_press (p0 : Int32) (p1 : Int32) (h : Hst) : Option (Int32 × Hst) :=
  gbv (f_X6_checkTank p0 h) fun h1 =>
  gb (f_X6_reasonAgainstPress p0 p1 h1) fun x3 h2 =>
  (if x3 = 0 then
    gbv (f_X0_save h2) fun h4 =>
    gbv (f_X6_loseByCleaning (h4.1 13 4) (h4.1 13 9) h4) fun h5 =>
    gbv (f_X6_enterPressedLot p0 h5) fun h6 =>
    gbv (f_X6_pourPressedOil p0 h6) fun h7 =>
    gbv (f_X3_put_7 3 (h7.1 13 2) h7) fun h8 =>
    gbv (f_X3_put_7 4 (h8.1 13 3) h8) fun h9 =>
    (some (h9.1 13 5, h9))
  else
    none)
set_option maxRecDepth 20000 in
theorem ge_X6_press (γ : Gv) (p0 : Int32) (p1 : Int32) (h : Hst) : G γ RX6 cX6_press 3 (some .int) [] vI 5 0 0 (lv_args 0 [.ref (gad γ 0), .int p0, .int p1]) [] h (f_X6_press p0 p1 h) := by
  show G γ RX6 cX6_press 3 (some .int) [] vI 5 0 0 [(0, .ref (gad γ 0)), (1, .int p0), (2, .int p1)] [] h (f_X6_press p0 p1 h)
  unfold f_X6_press
  refine g_aload_n (pc := 0) dX6_press_0 rfl 0 rfl ?_
  refine g_iload_n (pc := 1) dX6_press_1 rfl 1 rfl ?_
  refine g_cV (pc := 2) (st := []) (fun r hr => gRunV (As := [.int p0]) 0 (ge_X6_checkTank γ p0 h) hr wv_RX6_138 rfl (Nat.le_of_ble_eq_true rfl) (gat_0 _ _) rfl rfl (Nat.le_of_ble_eq_true rfl) (Nat.le_of_ble_eq_true rfl) dX6_press_2) (fun h1 => ?_)
  refine g_aload_n (pc := 5) dX6_press_5 rfl 0 rfl ?_
  refine g_iload_n (pc := 6) dX6_press_6 rfl 1 rfl ?_
  refine g_iload_n (pc := 7) dX6_press_7 rfl 2 rfl ?_
  refine g_cI (pc := 8) (st := []) (fun r hr => gRunV (As := [.int p0, .int p1]) 0 (ge_X6_reasonAgainstPress γ p0 p1 h1) hr wv_RX6_141 rfl (Nat.le_of_ble_eq_true rfl) (gat_0 _ _) rfl rfl (Nat.le_of_ble_eq_true rfl) (Nat.le_of_ble_eq_true rfl) dX6_press_8) (fun x3 h2 => ?_)
  refine g_if_eq (pc := 11) (tgt := 24) dX6_press_11 (by decide) ?_ ?_
  · refine g_aload_n (pc := 24) dX6_press_24 rfl 0 rfl ?_
    refine gf_RX6_12_0 (pc := 25) dX6_press_25 ?_
    refine g_cV (pc := 28) (st := []) (fun r hr => gRunV (As := []) 1 (ge_X0_save γ h2) hr wv_RX6_64 rfl (Nat.le_of_ble_eq_true rfl) (gat_1 _ _) rfl rfl (Nat.le_of_ble_eq_true rfl) (Nat.le_of_ble_eq_true rfl) dX6_press_28) (fun h4 => ?_)
    refine g_aload_n (pc := 31) dX6_press_31 rfl 0 rfl ?_
    refine g_aload_n (pc := 32) dX6_press_32 rfl 0 rfl ?_
    refine gf_RX6_28_0 (pc := 33) dX6_press_33 ?_
    refine gf_RX6_147_13 (pc := 36) dX6_press_36 ?_
    refine g_aload_n (pc := 39) dX6_press_39 rfl 0 rfl ?_
    refine gf_RX6_28_0 (pc := 40) dX6_press_40 ?_
    refine gf_RX6_150_13 (pc := 43) dX6_press_43 ?_
    refine g_cV (pc := 46) (st := []) (fun r hr => gRunV (As := [.int (h4.1 13 4), .int (h4.1 13 9)]) 0 (ge_X6_loseByCleaning γ (h4.1 13 4) (h4.1 13 9) h4) hr wv_RX6_153 rfl (Nat.le_of_ble_eq_true rfl) (gat_0 _ _) rfl rfl (Nat.le_of_ble_eq_true rfl) (Nat.le_of_ble_eq_true rfl) dX6_press_46) (fun h5 => ?_)
    refine g_aload_n (pc := 49) dX6_press_49 rfl 0 rfl ?_
    refine g_iload_n (pc := 50) dX6_press_50 rfl 1 rfl ?_
    refine g_cV (pc := 51) (st := []) (fun r hr => gRunV (As := [.int p0]) 0 (ge_X6_enterPressedLot γ p0 h5) hr wv_RX6_156 rfl (Nat.le_of_ble_eq_true rfl) (gat_0 _ _) rfl rfl (Nat.le_of_ble_eq_true rfl) (Nat.le_of_ble_eq_true rfl) dX6_press_51) (fun h6 => ?_)
    refine g_aload_n (pc := 54) dX6_press_54 rfl 0 rfl ?_
    refine g_iload_n (pc := 55) dX6_press_55 rfl 1 rfl ?_
    refine g_cV (pc := 56) (st := []) (fun r hr => gRunV (As := [.int p0]) 0 (ge_X6_pourPressedOil γ p0 h6) hr wv_RX6_159 rfl (Nat.le_of_ble_eq_true rfl) (gat_0 _ _) rfl rfl (Nat.le_of_ble_eq_true rfl) (Nat.le_of_ble_eq_true rfl) dX6_press_56) (fun h7 => ?_)
    refine g_aload_n (pc := 59) dX6_press_59 rfl 0 rfl ?_
    refine gf_RX6_12_0 (pc := 60) dX6_press_60 ?_
    refine gf_RX6_47_1 (pc := 63) dX6_press_63 ?_
    refine g_iconst (pc := 66) (v := 3) dX6_press_66 (by decide) ?_
    refine g_aload_n (pc := 67) dX6_press_67 rfl 0 rfl ?_
    refine gf_RX6_28_0 (pc := 68) dX6_press_68 ?_
    refine gf_RX6_162_13 (pc := 71) dX6_press_71 ?_
    refine g_cV (pc := 74) (st := []) (fun r hr => gRunV (As := [.int 3, .int (h7.1 13 2)]) 7 (ge_X3_put_7 γ 3 (h7.1 13 2) h7) hr wv_RX6_136 rfl (Nat.le_of_ble_eq_true rfl) (gat_7 _ _) rfl rfl (Nat.le_of_ble_eq_true rfl) (Nat.le_of_ble_eq_true rfl) dX6_press_74) (fun h8 => ?_)
    refine g_aload_n (pc := 77) dX6_press_77 rfl 0 rfl ?_
    refine gf_RX6_12_0 (pc := 78) dX6_press_78 ?_
    refine gf_RX6_47_1 (pc := 81) dX6_press_81 ?_
    refine g_iconst (pc := 84) (v := 4) dX6_press_84 (by decide) ?_
    refine g_aload_n (pc := 85) dX6_press_85 rfl 0 rfl ?_
    refine gf_RX6_28_0 (pc := 86) dX6_press_86 ?_
    refine gf_RX6_165_13 (pc := 89) dX6_press_89 ?_
    refine g_cV (pc := 92) (st := []) (fun r hr => gRunV (As := [.int 4, .int (h8.1 13 3)]) 7 (ge_X3_put_7 γ 4 (h8.1 13 3) h8) hr wv_RX6_136 rfl (Nat.le_of_ble_eq_true rfl) (gat_7 _ _) rfl rfl (Nat.le_of_ble_eq_true rfl) (Nat.le_of_ble_eq_true rfl) dX6_press_92) (fun h9 => ?_)
    refine g_aload_n (pc := 95) dX6_press_95 rfl 0 rfl ?_
    refine gf_RX6_28_0 (pc := 96) dX6_press_96 ?_
    refine gf_RX6_168_13 (pc := 99) dX6_press_99 ?_
    exact g_ireturn (pc := 102) (ty := .int) dX6_press_102 rfl rfl rfl
  · exact g_none
def f_X6_enterLot (p0 : Int32) (p1 : Int32) (p2 : Int32) (p3 : Int32) (p4 : Int32) (h : Hst) : Option (Int32 × Hst) :=
  gb (f_X3_get_7 1 h) fun x2 h1 =>
  gbv (f_X5_put_3 x2 0 p0 h1) fun h3 =>
  gbv (f_X5_put_3 x2 1 p1 h3) fun h4 =>
  gbv (f_X5_put_3 x2 2 p2 h4) fun h5 =>
  gbv (f_X5_put_3 x2 3 p3 h5) fun h6 =>
  gbv (f_X5_put_3 x2 4 p4 h6) fun h7 =>
  gbv (f_X3_add_7 1 1 h7) fun h8 =>
  (some (x2, h8))
set_option maxRecDepth 20000 in
theorem ge_X6_enterLot (γ : Gv) (p0 : Int32) (p1 : Int32) (p2 : Int32) (p3 : Int32) (p4 : Int32) (h : Hst) : G γ RX6 cX6_enterLot 7 (some .int) [] vI 2 0 0 (lv_args 0 [.ref (gad γ 0), .int p0, .int p1, .int p2, .int p3, .int p4]) [] h (f_X6_enterLot p0 p1 p2 p3 p4 h) := by
  show G γ RX6 cX6_enterLot 7 (some .int) [] vI 2 0 0 [(0, .ref (gad γ 0)), (1, .int p0), (2, .int p1), (3, .int p2), (4, .int p3), (5, .int p4)] [] h (f_X6_enterLot p0 p1 p2 p3 p4 h)
  unfold f_X6_enterLot
  refine g_aload_n (pc := 0) dX6_enterLot_0 rfl 0 rfl ?_
  refine gf_RX6_12_0 (pc := 1) dX6_enterLot_1 ?_
  refine gf_RX6_47_1 (pc := 4) dX6_enterLot_4 ?_
  refine g_iconst (pc := 7) (v := 1) dX6_enterLot_7 (by decide) ?_
  refine g_cI (pc := 8) (st := []) (fun r hr => gRunV (As := [.int 1]) 7 (ge_X3_get_7 γ 1 h) hr wv_RX6_51 rfl (Nat.le_of_ble_eq_true rfl) (gat_7 _ _) rfl rfl (Nat.le_of_ble_eq_true rfl) (Nat.le_of_ble_eq_true rfl) dX6_enterLot_8) (fun x2 h1 => ?_)
  refine g_istore (pc := 11) (lv' := [(6, .int x2), (0, .ref (gad γ 0)), (1, .int p0), (2, .int p1), (3, .int p2), (4, .int p3), (5, .int p4)]) dX6_enterLot_11 (by decide) rfl ?_
  refine g_aload_n (pc := 13) dX6_enterLot_13 rfl 1 rfl ?_
  refine gf_RX6_12_0 (pc := 14) dX6_enterLot_14 ?_
  refine gf_RX6_182_1 (pc := 17) dX6_enterLot_17 ?_
  refine g_iload (pc := 20) dX6_enterLot_20 0 rfl ?_
  refine g_iconst (pc := 22) (v := 0) dX6_enterLot_22 (by decide) ?_
  refine g_iload_n (pc := 23) dX6_enterLot_23 rfl 2 rfl ?_
  refine g_cV (pc := 24) (st := []) (fun r hr => gRunV (As := [.int x2, .int 0, .int p0]) 3 (ge_X5_put_3 γ x2 0 p0 h1) hr wv_RX6_102 rfl (Nat.le_of_ble_eq_true rfl) (gat_3 _ _) rfl rfl (Nat.le_of_ble_eq_true rfl) (Nat.le_of_ble_eq_true rfl) dX6_enterLot_24) (fun h3 => ?_)
  refine g_aload_n (pc := 27) dX6_enterLot_27 rfl 1 rfl ?_
  refine gf_RX6_12_0 (pc := 28) dX6_enterLot_28 ?_
  refine gf_RX6_182_1 (pc := 31) dX6_enterLot_31 ?_
  refine g_iload (pc := 34) dX6_enterLot_34 0 rfl ?_
  refine g_iconst (pc := 36) (v := 1) dX6_enterLot_36 (by decide) ?_
  refine g_iload_n (pc := 37) dX6_enterLot_37 rfl 3 rfl ?_
  refine g_cV (pc := 38) (st := []) (fun r hr => gRunV (As := [.int x2, .int 1, .int p1]) 3 (ge_X5_put_3 γ x2 1 p1 h3) hr wv_RX6_102 rfl (Nat.le_of_ble_eq_true rfl) (gat_3 _ _) rfl rfl (Nat.le_of_ble_eq_true rfl) (Nat.le_of_ble_eq_true rfl) dX6_enterLot_38) (fun h4 => ?_)
  refine g_aload_n (pc := 41) dX6_enterLot_41 rfl 1 rfl ?_
  refine gf_RX6_12_0 (pc := 42) dX6_enterLot_42 ?_
  refine gf_RX6_182_1 (pc := 45) dX6_enterLot_45 ?_
  refine g_iload (pc := 48) dX6_enterLot_48 0 rfl ?_
  refine g_iconst (pc := 50) (v := 2) dX6_enterLot_50 (by decide) ?_
  refine g_iload_n (pc := 51) dX6_enterLot_51 rfl 4 rfl ?_
  refine g_cV (pc := 52) (st := []) (fun r hr => gRunV (As := [.int x2, .int 2, .int p2]) 3 (ge_X5_put_3 γ x2 2 p2 h4) hr wv_RX6_102 rfl (Nat.le_of_ble_eq_true rfl) (gat_3 _ _) rfl rfl (Nat.le_of_ble_eq_true rfl) (Nat.le_of_ble_eq_true rfl) dX6_enterLot_52) (fun h5 => ?_)
  refine g_aload_n (pc := 55) dX6_enterLot_55 rfl 1 rfl ?_
  refine gf_RX6_12_0 (pc := 56) dX6_enterLot_56 ?_
  refine gf_RX6_182_1 (pc := 59) dX6_enterLot_59 ?_
  refine g_iload (pc := 62) dX6_enterLot_62 0 rfl ?_
  refine g_iconst (pc := 64) (v := 3) dX6_enterLot_64 (by decide) ?_
  refine g_iload (pc := 65) dX6_enterLot_65 5 rfl ?_
  refine g_cV (pc := 67) (st := []) (fun r hr => gRunV (As := [.int x2, .int 3, .int p3]) 3 (ge_X5_put_3 γ x2 3 p3 h5) hr wv_RX6_102 rfl (Nat.le_of_ble_eq_true rfl) (gat_3 _ _) rfl rfl (Nat.le_of_ble_eq_true rfl) (Nat.le_of_ble_eq_true rfl) dX6_enterLot_67) (fun h6 => ?_)
  refine g_aload_n (pc := 70) dX6_enterLot_70 rfl 1 rfl ?_
  refine gf_RX6_12_0 (pc := 71) dX6_enterLot_71 ?_
  refine gf_RX6_182_1 (pc := 74) dX6_enterLot_74 ?_
  refine g_iload (pc := 77) dX6_enterLot_77 0 rfl ?_
  refine g_iconst (pc := 79) (v := 4) dX6_enterLot_79 (by decide) ?_
  refine g_iload (pc := 80) dX6_enterLot_80 6 rfl ?_
  refine g_cV (pc := 82) (st := []) (fun r hr => gRunV (As := [.int x2, .int 4, .int p4]) 3 (ge_X5_put_3 γ x2 4 p4 h6) hr wv_RX6_102 rfl (Nat.le_of_ble_eq_true rfl) (gat_3 _ _) rfl rfl (Nat.le_of_ble_eq_true rfl) (Nat.le_of_ble_eq_true rfl) dX6_enterLot_82) (fun h7 => ?_)
  refine g_aload_n (pc := 85) dX6_enterLot_85 rfl 1 rfl ?_
  refine gf_RX6_12_0 (pc := 86) dX6_enterLot_86 ?_
  refine gf_RX6_47_1 (pc := 89) dX6_enterLot_89 ?_
  refine g_iconst (pc := 92) (v := 1) dX6_enterLot_92 (by decide) ?_
  refine g_iconst (pc := 93) (v := 1) dX6_enterLot_93 (by decide) ?_
  refine g_cV (pc := 94) (st := []) (fun r hr => gRunV (As := [.int 1, .int 1]) 7 (ge_X3_add_7 γ 1 1 h7) hr wv_RX6_67 rfl (Nat.le_of_ble_eq_true rfl) (gat_7 _ _) rfl rfl (Nat.le_of_ble_eq_true rfl) (Nat.le_of_ble_eq_true rfl) dX6_enterLot_94) (fun h8 => ?_)
  refine g_iload (pc := 97) dX6_enterLot_97 0 rfl ?_
  exact g_ireturn (pc := 99) (ty := .int) dX6_enterLot_99 rfl rfl rfl
def jb_X6_addLot_48   (h : Hst) : Option (Int32 × Hst) :=
  none
def f_X6_addLot (p0 : Int32) (p1 : Int32) (p2 : Int32) (p3 : Int32) (p4 : Int32) (h : Hst) : Option (Int32 × Hst) :=
  gbv (f_X6_checkGrower p0 h) fun h1 =>
  gb (f_X6_isVariety p1 h1) fun x3 h2 =>
  (if x3 = 0 then
    (jb_X6_addLot_48 h2)
  else
    gb (f_X6_isOutside p2 1 2000 h2) fun x5 h4 =>
    (if x5 = 0 then
      gb (f_X6_isOutside p3 0 50 h4) fun x7 h6 =>
      (if x7 = 0 then
        gb (f_X6_isOutside p4 500 1500 h6) fun x9 h8 =>
        (if x9 = 0 then
          gb (f_X3_get_7 1 h8) fun x11 h10 =>
          (if x11 < 40 then
            gbv (f_X0_save h10) fun h12 =>
            gb (f_X6_enterLot p0 p1 p2 p3 p4 h12) fun x14 h13 =>
            (some (x14, h13))
          else
            none)
        else
          (jb_X6_addLot_48 h8))
      else
        (jb_X6_addLot_48 h6))
    else
      (jb_X6_addLot_48 h4)))
set_option maxRecDepth 20000 in
theorem gjb_X6_addLot_48 (γ : Gv)   (h : Hst) : G γ RX6 cX6_addLot 6 (some .int) [] vI 3 0 48 [] [] h (jb_X6_addLot_48 h) := by
  unfold jb_X6_addLot_48
  exact g_none
set_option maxRecDepth 20000 in
theorem ge_X6_addLot (γ : Gv) (p0 : Int32) (p1 : Int32) (p2 : Int32) (p3 : Int32) (p4 : Int32) (h : Hst) : G γ RX6 cX6_addLot 6 (some .int) [] vI 3 0 0 (lv_args 0 [.ref (gad γ 0), .int p0, .int p1, .int p2, .int p3, .int p4]) [] h (f_X6_addLot p0 p1 p2 p3 p4 h) := by
  show G γ RX6 cX6_addLot 6 (some .int) [] vI 3 0 0 [(0, .ref (gad γ 0)), (1, .int p0), (2, .int p1), (3, .int p2), (4, .int p3), (5, .int p4)] [] h (f_X6_addLot p0 p1 p2 p3 p4 h)
  unfold f_X6_addLot
  refine g_aload_n (pc := 0) dX6_addLot_0 rfl 0 rfl ?_
  refine g_iload_n (pc := 1) dX6_addLot_1 rfl 1 rfl ?_
  refine g_cV (pc := 2) (st := []) (fun r hr => gRunV (As := [.int p0]) 0 (ge_X6_checkGrower γ p0 h) hr wv_RX6_71 rfl (Nat.le_of_ble_eq_true rfl) (gat_0 _ _) rfl rfl (Nat.le_of_ble_eq_true rfl) (Nat.le_of_ble_eq_true rfl) dX6_addLot_2) (fun h1 => ?_)
  refine g_iload_n (pc := 5) dX6_addLot_5 rfl 2 rfl ?_
  refine g_cI (pc := 6) (st := []) (fun r hr => gRunS (As := [.int p1]) (ge_X6_isVariety γ p1 h1) hr wv_RX6_75 rfl (Nat.le_of_ble_eq_true rfl) rfl (Nat.le_of_ble_eq_true rfl) (Nat.le_of_ble_eq_true rfl) dX6_addLot_6) (fun x3 h2 => ?_)
  refine g_if_eq (pc := 9) (tgt := 48) dX6_addLot_9 (by decide) ?_ ?_
  · exact g_sub [] rfl (gjb_X6_addLot_48 γ h2)
  · refine g_iload_n (pc := 12) dX6_addLot_12 rfl 3 rfl ?_
    refine g_iconst (pc := 13) (v := 1) dX6_addLot_13 (by decide) ?_
    refine g_sipush (pc := 14) (v := 2000) dX6_addLot_14 (by decide) ?_
    refine g_cI (pc := 17) (st := []) (fun r hr => gRunS (As := [.int p2, .int 1, .int 2000]) (ge_X6_isOutside γ p2 1 2000 h2) hr wv_RX6_79 rfl (Nat.le_of_ble_eq_true rfl) rfl (Nat.le_of_ble_eq_true rfl) (Nat.le_of_ble_eq_true rfl) dX6_addLot_17) (fun x5 h4 => ?_)
    refine g_if_ne (pc := 20) (tgt := 48) dX6_addLot_20 (by decide) ?_ ?_
    · exact g_sub [] rfl (gjb_X6_addLot_48 γ h4)
    · refine g_iload (pc := 23) dX6_addLot_23 4 rfl ?_
      refine g_iconst (pc := 25) (v := 0) dX6_addLot_25 (by decide) ?_
      refine g_bipush (pc := 26) (v := 50) dX6_addLot_26 (by decide) ?_
      refine g_cI (pc := 28) (st := []) (fun r hr => gRunS (As := [.int p3, .int 0, .int 50]) (ge_X6_isOutside γ p3 0 50 h4) hr wv_RX6_79 rfl (Nat.le_of_ble_eq_true rfl) rfl (Nat.le_of_ble_eq_true rfl) (Nat.le_of_ble_eq_true rfl) dX6_addLot_28) (fun x7 h6 => ?_)
      refine g_if_ne (pc := 31) (tgt := 48) dX6_addLot_31 (by decide) ?_ ?_
      · exact g_sub [] rfl (gjb_X6_addLot_48 γ h6)
      · refine g_iload (pc := 34) dX6_addLot_34 5 rfl ?_
        refine g_sipush (pc := 36) (v := 500) dX6_addLot_36 (by decide) ?_
        refine g_sipush (pc := 39) (v := 1500) dX6_addLot_39 (by decide) ?_
        refine g_cI (pc := 42) (st := []) (fun r hr => gRunS (As := [.int p4, .int 500, .int 1500]) (ge_X6_isOutside γ p4 500 1500 h6) hr wv_RX6_79 rfl (Nat.le_of_ble_eq_true rfl) rfl (Nat.le_of_ble_eq_true rfl) (Nat.le_of_ble_eq_true rfl) dX6_addLot_42) (fun x9 h8 => ?_)
        refine g_if_eq (pc := 45) (tgt := 58) dX6_addLot_45 (by decide) ?_ ?_
        · refine g_aload_n (pc := 58) dX6_addLot_58 rfl 0 rfl ?_
          refine gf_RX6_12_0 (pc := 59) dX6_addLot_59 ?_
          refine gf_RX6_47_1 (pc := 62) dX6_addLot_62 ?_
          refine g_iconst (pc := 65) (v := 1) dX6_addLot_65 (by decide) ?_
          refine g_cI (pc := 66) (st := []) (fun r hr => gRunV (As := [.int 1]) 7 (ge_X3_get_7 γ 1 h8) hr wv_RX6_51 rfl (Nat.le_of_ble_eq_true rfl) (gat_7 _ _) rfl rfl (Nat.le_of_ble_eq_true rfl) (Nat.le_of_ble_eq_true rfl) dX6_addLot_66) (fun x11 h10 => ?_)
          refine g_bipush (pc := 69) (v := 40) dX6_addLot_69 (by decide) ?_
          refine g_icmp_lt (pc := 71) (tgt := 84) dX6_addLot_71 (by decide) ?_ ?_
          · refine g_aload_n (pc := 84) dX6_addLot_84 rfl 0 rfl ?_
            refine gf_RX6_12_0 (pc := 85) dX6_addLot_85 ?_
            refine g_cV (pc := 88) (st := []) (fun r hr => gRunV (As := []) 1 (ge_X0_save γ h10) hr wv_RX6_64 rfl (Nat.le_of_ble_eq_true rfl) (gat_1 _ _) rfl rfl (Nat.le_of_ble_eq_true rfl) (Nat.le_of_ble_eq_true rfl) dX6_addLot_88) (fun h12 => ?_)
            refine g_aload_n (pc := 91) dX6_addLot_91 rfl 0 rfl ?_
            refine g_iload_n (pc := 92) dX6_addLot_92 rfl 1 rfl ?_
            refine g_iload_n (pc := 93) dX6_addLot_93 rfl 2 rfl ?_
            refine g_iload_n (pc := 94) dX6_addLot_94 rfl 3 rfl ?_
            refine g_iload (pc := 95) dX6_addLot_95 4 rfl ?_
            refine g_iload (pc := 97) dX6_addLot_97 5 rfl ?_
            refine g_cI (pc := 99) (st := []) (fun r hr => gRunV (As := [.int p0, .int p1, .int p2, .int p3, .int p4]) 0 (ge_X6_enterLot γ p0 p1 p2 p3 p4 h12) hr wv_RX6_90 rfl (Nat.le_of_ble_eq_true rfl) (gat_0 _ _) rfl rfl (Nat.le_of_ble_eq_true rfl) (Nat.le_of_ble_eq_true rfl) dX6_addLot_99) (fun x14 h13 => ?_)
            exact g_ireturn (pc := 102) (ty := .int) dX6_addLot_102 rfl rfl rfl
          · exact g_none
        · exact g_sub [] rfl (gjb_X6_addLot_48 γ h8)
def jb_X6_lotsWith_78 (R19 : Int32 → Int32 → Int32 → Int32 → Int32 → Int32 → Hst → Option (Int32 × Hst)) (a1 : Int32) (a2 : Int32) (a3 : Int32) (a4 : Int32) (a5 : Int32) (a6 : Int32) (h : Hst) : Option (Int32 × Hst) :=
  (R19 a1 a2 a3 a4 a5 (a6 + 1) h)
def jb_X6_lotsWith_51 (R19 : Int32 → Int32 → Int32 → Int32 → Int32 → Int32 → Hst → Option (Int32 × Hst)) (a1 : Int32) (a2 : Int32) (a3 : Int32) (a4 : Int32) (a5 : Int32) (a6 : Int32) (s0 : Int32) (h : Hst) : Option (Int32 × Hst) :=
  (if s0 = 0 then
    (jb_X6_lotsWith_78 R19 a1 a2 a3 a4 a5 a6 h)
  else
    gb (f_X5_get_3 a6 a1 h) fun x2 h1 =>
    (if x2 = a2 then
      (jb_X6_lotsWith_78 R19 a1 a2 a3 (a4 + 1) a5 a6 h1)
    else
      (jb_X6_lotsWith_78 R19 a1 a2 a3 a4 a5 a6 h1)))
def jb_X6_lotsWith_46 (R19 : Int32 → Int32 → Int32 → Int32 → Int32 → Int32 → Hst → Option (Int32 × Hst)) (a1 : Int32) (a2 : Int32) (a3 : Int32) (a4 : Int32) (a5 : Int32) (a6 : Int32) (h : Hst) : Option (Int32 × Hst) :=
  (jb_X6_lotsWith_51 R19 a1 a2 a3 a4 a5 a6 1 h)
def lp_X6_lotsWith_19 : Nat → Int32 → Int32 → Int32 → Int32 → Int32 → Int32 → Hst → Option (Int32 × Hst)
  | 0, _, _, _, _, _, _, _ => none
  | n + 1, a1, a2, a3, a4, a5, a6, h =>
    (if a5 ≤ a6 then
      (some (a4, h))
    else
      (if a3 = 0 then
        (jb_X6_lotsWith_46 (lp_X6_lotsWith_19 n) a1 a2 a3 a4 a5 a6 h)
      else
        gb (f_X5_get_3 a6 5 h) fun x2 h1 =>
        (if x2 = 0 then
          (jb_X6_lotsWith_46 (lp_X6_lotsWith_19 n) a1 a2 a3 a4 a5 a6 h1)
        else
          (jb_X6_lotsWith_51 (lp_X6_lotsWith_19 n) a1 a2 a3 a4 a5 a6 0 h1))))
def f_X6_lotsWith (p0 : Int32) (p1 : Int32) (p2 : Int32) (h : Hst) : Option (Int32 × Hst) :=
  gb (f_X3_get_7 1 h) fun x2 h1 =>
  (lp_X6_lotsWith_19 FU p0 p1 p2 0 x2 0 h1)
set_option maxRecDepth 20000 in
theorem gjb_X6_lotsWith_78 (γ : Gv) (R19 : Int32 → Int32 → Int32 → Int32 → Int32 → Int32 → Hst → Option (Int32 × Hst)) (hR19 : ∀ (a1 : Int32) (a2 : Int32) (a3 : Int32) (a4 : Int32) (a5 : Int32) (a6 : Int32) (h : Hst), G γ RX6 cX6_lotsWith 8 (some .int) [] vI 1 0 19 [(0, .ref (gad γ 0)), (1, .int a1), (2, .int a2), (3, .int a3), (4, .int a4), (5, .int a5), (6, .int a6)] [] h (R19 a1 a2 a3 a4 a5 a6 h)) (a1 : Int32) (a2 : Int32) (a3 : Int32) (a4 : Int32) (a5 : Int32) (a6 : Int32) (h : Hst) : G γ RX6 cX6_lotsWith 8 (some .int) [] vI 1 0 78 [(0, .ref (gad γ 0)), (1, .int a1), (2, .int a2), (3, .int a3), (4, .int a4), (5, .int a5), (6, .int a6)] [] h (jb_X6_lotsWith_78 R19 a1 a2 a3 a4 a5 a6 h) := by
  unfold jb_X6_lotsWith_78
  refine g_iinc (pc := 78) (q := 6) (v := a6 + 1) (lv' := [(6, .int (a6 + 1)), (0, .ref (gad γ 0)), (1, .int a1), (2, .int a2), (3, .int a3), (4, .int a4), (5, .int a5)]) dX6_lotsWith_78 rfl rfl (by decide) rfl ?_
  refine g_goto (pc := 81) (tgt := 19) dX6_lotsWith_81 (by decide) ?_
  exact g_sub [1, 2, 3, 4, 5, 6, 0] rfl (hR19 a1 a2 a3 a4 a5 (a6 + 1) h)
set_option maxRecDepth 20000 in
theorem gjb_X6_lotsWith_51 (γ : Gv) (R19 : Int32 → Int32 → Int32 → Int32 → Int32 → Int32 → Hst → Option (Int32 × Hst)) (hR19 : ∀ (a1 : Int32) (a2 : Int32) (a3 : Int32) (a4 : Int32) (a5 : Int32) (a6 : Int32) (h : Hst), G γ RX6 cX6_lotsWith 8 (some .int) [] vI 1 0 19 [(0, .ref (gad γ 0)), (1, .int a1), (2, .int a2), (3, .int a3), (4, .int a4), (5, .int a5), (6, .int a6)] [] h (R19 a1 a2 a3 a4 a5 a6 h)) (a1 : Int32) (a2 : Int32) (a3 : Int32) (a4 : Int32) (a5 : Int32) (a6 : Int32) (s0 : Int32) (h : Hst) : G γ RX6 cX6_lotsWith 8 (some .int) [] vI 1 0 51 [(0, .ref (gad γ 0)), (1, .int a1), (2, .int a2), (3, .int a3), (4, .int a4), (5, .int a5), (6, .int a6)] [.int s0] h (jb_X6_lotsWith_51 R19 a1 a2 a3 a4 a5 a6 s0 h) := by
  unfold jb_X6_lotsWith_51
  refine g_istore (pc := 51) (lv' := [(7, .int s0), (0, .ref (gad γ 0)), (1, .int a1), (2, .int a2), (3, .int a3), (4, .int a4), (5, .int a5), (6, .int a6)]) dX6_lotsWith_51 (by decide) rfl ?_
  refine g_iload (pc := 53) dX6_lotsWith_53 0 rfl ?_
  refine g_if_eq (pc := 55) (tgt := 78) dX6_lotsWith_55 (by decide) ?_ ?_
  · exact g_sub [1, 2, 3, 4, 5, 6, 7] rfl (gjb_X6_lotsWith_78 γ R19 hR19 a1 a2 a3 a4 a5 a6 h)
  · refine g_aload_n (pc := 58) dX6_lotsWith_58 rfl 1 rfl ?_
    refine gf_RX6_12_0 (pc := 59) dX6_lotsWith_59 ?_
    refine gf_RX6_182_1 (pc := 62) dX6_lotsWith_62 ?_
    refine g_iload (pc := 65) dX6_lotsWith_65 7 rfl ?_
    refine g_iload_n (pc := 67) dX6_lotsWith_67 rfl 2 rfl ?_
    refine g_cI (pc := 68) (st := []) (fun r hr => gRunV (As := [.int a6, .int a1]) 3 (ge_X5_get_3 γ a6 a1 h) hr wv_RX6_116 rfl (Nat.le_of_ble_eq_true rfl) (gat_3 _ _) rfl rfl (Nat.le_of_ble_eq_true rfl) (Nat.le_of_ble_eq_true rfl) dX6_lotsWith_68) (fun x2 h1 => ?_)
    refine g_iload_n (pc := 71) dX6_lotsWith_71 rfl 3 rfl ?_
    refine g_icmp_ne (pc := 72) (tgt := 78) dX6_lotsWith_72 (by decide) ?_ ?_
    · exact g_sub [1, 2, 3, 4, 5, 6, 7] rfl (gjb_X6_lotsWith_78 γ R19 hR19 a1 a2 a3 a4 a5 a6 h1)
    · refine g_iinc (pc := 75) (q := 5) (v := a4 + 1) (lv' := [(4, .int (a4 + 1)), (7, .int s0), (0, .ref (gad γ 0)), (1, .int a1), (2, .int a2), (3, .int a3), (5, .int a5), (6, .int a6)]) dX6_lotsWith_75 rfl rfl (by decide) rfl ?_
      exact g_sub [2, 3, 4, 5, 0, 6, 7] rfl (gjb_X6_lotsWith_78 γ R19 hR19 a1 a2 a3 (a4 + 1) a5 a6 h1)
set_option maxRecDepth 20000 in
theorem gjb_X6_lotsWith_46 (γ : Gv) (R19 : Int32 → Int32 → Int32 → Int32 → Int32 → Int32 → Hst → Option (Int32 × Hst)) (hR19 : ∀ (a1 : Int32) (a2 : Int32) (a3 : Int32) (a4 : Int32) (a5 : Int32) (a6 : Int32) (h : Hst), G γ RX6 cX6_lotsWith 8 (some .int) [] vI 1 0 19 [(0, .ref (gad γ 0)), (1, .int a1), (2, .int a2), (3, .int a3), (4, .int a4), (5, .int a5), (6, .int a6)] [] h (R19 a1 a2 a3 a4 a5 a6 h)) (a1 : Int32) (a2 : Int32) (a3 : Int32) (a4 : Int32) (a5 : Int32) (a6 : Int32) (h : Hst) : G γ RX6 cX6_lotsWith 8 (some .int) [] vI 1 0 46 [(0, .ref (gad γ 0)), (1, .int a1), (2, .int a2), (3, .int a3), (4, .int a4), (5, .int a5), (6, .int a6)] [] h (jb_X6_lotsWith_46 R19 a1 a2 a3 a4 a5 a6 h) := by
  unfold jb_X6_lotsWith_46
  refine g_iconst (pc := 46) (v := 1) dX6_lotsWith_46 (by decide) ?_
  refine g_goto (pc := 47) (tgt := 51) dX6_lotsWith_47 (by decide) ?_
  exact gjb_X6_lotsWith_51 γ R19 hR19 a1 a2 a3 a4 a5 a6 1 h
set_option maxRecDepth 20000 in
theorem glp_X6_lotsWith_19 (γ : Gv)  : ∀ (n : Nat) (a1 : Int32) (a2 : Int32) (a3 : Int32) (a4 : Int32) (a5 : Int32) (a6 : Int32) (h : Hst), G γ RX6 cX6_lotsWith 8 (some .int) [] vI 1 0 19 [(0, .ref (gad γ 0)), (1, .int a1), (2, .int a2), (3, .int a3), (4, .int a4), (5, .int a5), (6, .int a6)] [] h (lp_X6_lotsWith_19 n a1 a2 a3 a4 a5 a6 h) := by
  intro n
  induction n with
  | zero => intro a1 a2 a3 a4 a5 a6 h; exact g_none
  | succ n ih =>
    intro a1 a2 a3 a4 a5 a6 h
    rw [lp_X6_lotsWith_19]
    refine g_iload (pc := 19) dX6_lotsWith_19 6 rfl ?_
    refine g_iload (pc := 21) dX6_lotsWith_21 5 rfl ?_
    refine g_icmp_ge (pc := 23) (tgt := 84) dX6_lotsWith_23 (by decide) ?_ ?_
    · refine g_iload (pc := 84) dX6_lotsWith_84 4 rfl ?_
      exact g_ireturn (pc := 86) (ty := .int) dX6_lotsWith_86 rfl rfl rfl
    · refine g_iload_n (pc := 26) dX6_lotsWith_26 rfl 3 rfl ?_
      refine g_if_eq (pc := 27) (tgt := 46) dX6_lotsWith_27 (by decide) ?_ ?_
      · exact gjb_X6_lotsWith_46 γ (lp_X6_lotsWith_19 n) ih a1 a2 a3 a4 a5 a6 h
      · refine g_aload_n (pc := 30) dX6_lotsWith_30 rfl 0 rfl ?_
        refine gf_RX6_12_0 (pc := 31) dX6_lotsWith_31 ?_
        refine gf_RX6_182_1 (pc := 34) dX6_lotsWith_34 ?_
        refine g_iload (pc := 37) dX6_lotsWith_37 6 rfl ?_
        refine g_iconst (pc := 39) (v := 5) dX6_lotsWith_39 (by decide) ?_
        refine g_cI (pc := 40) (st := []) (fun r hr => gRunV (As := [.int a6, .int 5]) 3 (ge_X5_get_3 γ a6 5 h) hr wv_RX6_116 rfl (Nat.le_of_ble_eq_true rfl) (gat_3 _ _) rfl rfl (Nat.le_of_ble_eq_true rfl) (Nat.le_of_ble_eq_true rfl) dX6_lotsWith_40) (fun x2 h1 => ?_)
        refine g_if_ne (pc := 43) (tgt := 50) dX6_lotsWith_43 (by decide) ?_ ?_
        · refine g_iconst (pc := 50) (v := 0) dX6_lotsWith_50 (by decide) ?_
          exact gjb_X6_lotsWith_51 γ (lp_X6_lotsWith_19 n) ih a1 a2 a3 a4 a5 a6 0 h1
        · exact gjb_X6_lotsWith_46 γ (lp_X6_lotsWith_19 n) ih a1 a2 a3 a4 a5 a6 h1
set_option maxRecDepth 20000 in
theorem ge_X6_lotsWith (γ : Gv) (p0 : Int32) (p1 : Int32) (p2 : Int32) (h : Hst) : G γ RX6 cX6_lotsWith 8 (some .int) [] vI 1 0 0 (lv_args 0 [.ref (gad γ 0), .int p0, .int p1, .int p2]) [] h (f_X6_lotsWith p0 p1 p2 h) := by
  show G γ RX6 cX6_lotsWith 8 (some .int) [] vI 1 0 0 [(0, .ref (gad γ 0)), (1, .int p0), (2, .int p1), (3, .int p2)] [] h (f_X6_lotsWith p0 p1 p2 h)
  unfold f_X6_lotsWith
  refine g_iconst (pc := 0) (v := 0) dX6_lotsWith_0 (by decide) ?_
  refine g_istore (pc := 1) (lv' := [(4, .int 0), (0, .ref (gad γ 0)), (1, .int p0), (2, .int p1), (3, .int p2)]) dX6_lotsWith_1 (by decide) rfl ?_
  refine g_aload_n (pc := 3) dX6_lotsWith_3 rfl 1 rfl ?_
  refine gf_RX6_12_0 (pc := 4) dX6_lotsWith_4 ?_
  refine gf_RX6_47_1 (pc := 7) dX6_lotsWith_7 ?_
  refine g_iconst (pc := 10) (v := 1) dX6_lotsWith_10 (by decide) ?_
  refine g_cI (pc := 11) (st := []) (fun r hr => gRunV (As := [.int 1]) 7 (ge_X3_get_7 γ 1 h) hr wv_RX6_51 rfl (Nat.le_of_ble_eq_true rfl) (gat_7 _ _) rfl rfl (Nat.le_of_ble_eq_true rfl) (Nat.le_of_ble_eq_true rfl) dX6_lotsWith_11) (fun x2 h1 => ?_)
  refine g_istore (pc := 14) (lv' := [(5, .int x2), (4, .int 0), (0, .ref (gad γ 0)), (1, .int p0), (2, .int p1), (3, .int p2)]) dX6_lotsWith_14 (by decide) rfl ?_
  refine g_iconst (pc := 16) (v := 0) dX6_lotsWith_16 (by decide) ?_
  refine g_istore (pc := 17) (lv' := [(6, .int 0), (5, .int x2), (4, .int 0), (0, .ref (gad γ 0)), (1, .int p0), (2, .int p1), (3, .int p2)]) dX6_lotsWith_17 (by decide) rfl ?_
  exact g_sub [3, 4, 5, 6, 2, 1, 0] rfl (glp_X6_lotsWith_19 γ FU p0 p1 p2 0 x2 0 h1)
def jb_X6_residueVariety_29  (s0 : Int32) (h : Hst) : Option (Int32 × Hst) :=
  (some (s0, h))
def f_X6_residueVariety  (h : Hst) : Option (Int32 × Hst) :=
  gb (f_X3_get_7 4 h) fun x2 h1 =>
  (if x2 ≤ 0 then
    (jb_X6_residueVariety_29 (-1) h1)
  else
    gb (f_X3_get_7 3 h1) fun x4 h3 =>
    (jb_X6_residueVariety_29 x4 h3))
set_option maxRecDepth 20000 in
theorem gjb_X6_residueVariety_29 (γ : Gv)  (s0 : Int32) (h : Hst) : G γ RX6 cX6_residueVariety 1 (some .int) [] vI 1 0 29 [] [.int s0] h (jb_X6_residueVariety_29 s0 h) := by
  unfold jb_X6_residueVariety_29
  exact g_ireturn (pc := 29) (ty := .int) dX6_residueVariety_29 rfl rfl rfl
set_option maxRecDepth 20000 in
theorem ge_X6_residueVariety (γ : Gv)  (h : Hst) : G γ RX6 cX6_residueVariety 1 (some .int) [] vI 1 0 0 (lv_args 0 [.ref (gad γ 0)]) [] h (f_X6_residueVariety h) := by
  show G γ RX6 cX6_residueVariety 1 (some .int) [] vI 1 0 0 [(0, .ref (gad γ 0))] [] h (f_X6_residueVariety h)
  unfold f_X6_residueVariety
  refine g_aload_n (pc := 0) dX6_residueVariety_0 rfl 0 rfl ?_
  refine gf_RX6_12_0 (pc := 1) dX6_residueVariety_1 ?_
  refine gf_RX6_47_1 (pc := 4) dX6_residueVariety_4 ?_
  refine g_iconst (pc := 7) (v := 4) dX6_residueVariety_7 (by decide) ?_
  refine g_cI (pc := 8) (st := []) (fun r hr => gRunV (As := [.int 4]) 7 (ge_X3_get_7 γ 4 h) hr wv_RX6_51 rfl (Nat.le_of_ble_eq_true rfl) (gat_7 _ _) rfl rfl (Nat.le_of_ble_eq_true rfl) (Nat.le_of_ble_eq_true rfl) dX6_residueVariety_8) (fun x2 h1 => ?_)
  refine g_if_le (pc := 11) (tgt := 28) dX6_residueVariety_11 (by decide) ?_ ?_
  · refine g_iconst (pc := 28) (v := (-1)) dX6_residueVariety_28 (by decide) ?_
    exact g_sub [] rfl (gjb_X6_residueVariety_29 γ (-1) h1)
  · refine g_aload_n (pc := 14) dX6_residueVariety_14 rfl 0 rfl ?_
    refine gf_RX6_12_0 (pc := 15) dX6_residueVariety_15 ?_
    refine gf_RX6_47_1 (pc := 18) dX6_residueVariety_18 ?_
    refine g_iconst (pc := 21) (v := 3) dX6_residueVariety_21 (by decide) ?_
    refine g_cI (pc := 22) (st := []) (fun r hr => gRunV (As := [.int 3]) 7 (ge_X3_get_7 γ 3 h1) hr wv_RX6_51 rfl (Nat.le_of_ble_eq_true rfl) (gat_7 _ _) rfl rfl (Nat.le_of_ble_eq_true rfl) (Nat.le_of_ble_eq_true rfl) dX6_residueVariety_22) (fun x4 h3 => ?_)
    refine g_goto (pc := 25) (tgt := 29) dX6_residueVariety_25 (by decide) ?_
    exact g_sub [] rfl (gjb_X6_residueVariety_29 γ x4 h3)
def lp_X1_allOil_4 : Nat → Int32 → Int32 → Hst → Option (Int32 × Hst)
  | 0, _, _, _ => none
  | n + 1, a1, a2, h =>
    (if 6 ≤ a2 then
      (some (a1, h))
    else
      gb (f_X1_oilOf a2 h) fun x2 h1 =>
      gl (a1 + x2) fun x3 =>
      ((lp_X1_allOil_4 n) x3 (a2 + 1) h1))
def f_X1_allOil  (h : Hst) : Option (Int32 × Hst) :=
  (lp_X1_allOil_4 FU 0 0 h)
set_option maxRecDepth 20000 in
theorem glp_X1_allOil_4 (γ : Gv)  : ∀ (n : Nat) (a1 : Int32) (a2 : Int32) (h : Hst), G γ RX1 cX1_allOil 3 (some .int) [] vI 2 0 4 [(0, .ref (gad γ 10)), (1, .int a1), (2, .int a2)] [] h (lp_X1_allOil_4 n a1 a2 h) := by
  intro n
  induction n with
  | zero => intro a1 a2 h; exact g_none
  | succ n ih =>
    intro a1 a2 h
    rw [lp_X1_allOil_4]
    refine g_iload_n (pc := 4) dX1_allOil_4 rfl 2 rfl ?_
    refine g_bipush (pc := 5) (v := 6) dX1_allOil_5 (by decide) ?_
    refine g_icmp_ge (pc := 7) (tgt := 24) dX1_allOil_7 (by decide) ?_ ?_
    · refine g_iload_n (pc := 24) dX1_allOil_24 rfl 1 rfl ?_
      exact g_ireturn (pc := 25) (ty := .int) dX1_allOil_25 rfl rfl rfl
    · refine g_iload_n (pc := 10) dX1_allOil_10 rfl 1 rfl ?_
      refine g_aload_n (pc := 11) dX1_allOil_11 rfl 0 rfl ?_
      refine g_iload_n (pc := 12) dX1_allOil_12 rfl 2 rfl ?_
      refine g_cI (pc := 13) (st := [.int a1]) (fun r hr => gRunV (As := [.int a2]) 10 (ge_X1_oilOf γ a2 h) hr wv_RX1_34 rfl (Nat.le_of_ble_eq_true rfl) (gat_10 _ _) rfl rfl (Nat.le_of_ble_eq_true rfl) (Nat.le_of_ble_eq_true rfl) dX1_allOil_13) (fun x2 h1 => ?_)
      refine g_iadd (pc := 16) dX1_allOil_16 ?_
      refine g_nmi (fun x3 => ?_)
      refine g_istore_n (pc := 17) (lv' := [(1, .int x3), (0, .ref (gad γ 10)), (2, .int a2)]) dX1_allOil_17 rfl (by decide) rfl ?_
      refine g_iinc (pc := 18) (q := 2) (v := a2 + 1) (lv' := [(2, .int (a2 + 1)), (1, .int x3), (0, .ref (gad γ 10))]) dX1_allOil_18 rfl rfl (by decide) rfl ?_
      refine g_goto (pc := 21) (tgt := 4) dX1_allOil_21 (by decide) ?_
      exact g_sub [2, 1, 0] rfl (ih x3 (a2 + 1) h1)
set_option maxRecDepth 20000 in
theorem ge_X1_allOil (γ : Gv)  (h : Hst) : G γ RX1 cX1_allOil 3 (some .int) [] vI 2 0 0 (lv_args 0 [.ref (gad γ 10)]) [] h (f_X1_allOil h) := by
  show G γ RX1 cX1_allOil 3 (some .int) [] vI 2 0 0 [(0, .ref (gad γ 10))] [] h (f_X1_allOil h)
  unfold f_X1_allOil
  refine g_iconst (pc := 0) (v := 0) dX1_allOil_0 (by decide) ?_
  refine g_istore_n (pc := 1) (lv' := [(1, .int 0), (0, .ref (gad γ 10))]) dX1_allOil_1 rfl (by decide) rfl ?_
  refine g_iconst (pc := 2) (v := 0) dX1_allOil_2 (by decide) ?_
  refine g_istore_n (pc := 3) (lv' := [(2, .int 0), (1, .int 0), (0, .ref (gad γ 10))]) dX1_allOil_3 rfl (by decide) rfl ?_
  exact g_sub [2, 1, 0] rfl (glp_X1_allOil_4 γ FU 0 0 h)
def lp_X6_sumOfGrowers_4 : Nat → Int32 → Int32 → Int32 → Hst → Option (Int32 × Hst)
  | 0, _, _, _, _ => none
  | n + 1, a1, a2, a3, h =>
    (if 8 ≤ a3 then
      (some (a2, h))
    else
      gb (f_X5_get_2 a3 a1 h) fun x2 h1 =>
      gl (a2 + x2) fun x3 =>
      ((lp_X6_sumOfGrowers_4 n) a1 x3 (a3 + 1) h1))
def f_X6_sumOfGrowers (p0 : Int32) (h : Hst) : Option (Int32 × Hst) :=
  (lp_X6_sumOfGrowers_4 FU p0 0 0 h)
set_option maxRecDepth 20000 in
theorem glp_X6_sumOfGrowers_4 (γ : Gv)  : ∀ (n : Nat) (a1 : Int32) (a2 : Int32) (a3 : Int32) (h : Hst), G γ RX6 cX6_sumOfGrowers 4 (some .int) [] vI 1 0 4 [(0, .ref (gad γ 0)), (1, .int a1), (2, .int a2), (3, .int a3)] [] h (lp_X6_sumOfGrowers_4 n a1 a2 a3 h) := by
  intro n
  induction n with
  | zero => intro a1 a2 a3 h; exact g_none
  | succ n ih =>
    intro a1 a2 a3 h
    rw [lp_X6_sumOfGrowers_4]
    refine g_iload_n (pc := 4) dX6_sumOfGrowers_4 rfl 3 rfl ?_
    refine g_bipush (pc := 5) (v := 8) dX6_sumOfGrowers_5 (by decide) ?_
    refine g_icmp_ge (pc := 7) (tgt := 31) dX6_sumOfGrowers_7 (by decide) ?_ ?_
    · refine g_iload_n (pc := 31) dX6_sumOfGrowers_31 rfl 2 rfl ?_
      exact g_ireturn (pc := 32) (ty := .int) dX6_sumOfGrowers_32 rfl rfl rfl
    · refine g_iload_n (pc := 10) dX6_sumOfGrowers_10 rfl 2 rfl ?_
      refine g_aload_n (pc := 11) dX6_sumOfGrowers_11 rfl 0 rfl ?_
      refine gf_RX6_12_0 (pc := 12) dX6_sumOfGrowers_12 ?_
      refine gf_RX6_200_1 (pc := 15) dX6_sumOfGrowers_15 ?_
      refine g_iload_n (pc := 18) dX6_sumOfGrowers_18 rfl 3 rfl ?_
      refine g_iload_n (pc := 19) dX6_sumOfGrowers_19 rfl 1 rfl ?_
      refine g_cI (pc := 20) (st := [.int a2]) (fun r hr => gRunV (As := [.int a3, .int a1]) 2 (ge_X5_get_2 γ a3 a1 h) hr wv_RX6_116 rfl (Nat.le_of_ble_eq_true rfl) (gat_2 _ _) rfl rfl (Nat.le_of_ble_eq_true rfl) (Nat.le_of_ble_eq_true rfl) dX6_sumOfGrowers_20) (fun x2 h1 => ?_)
      refine g_iadd (pc := 23) dX6_sumOfGrowers_23 ?_
      refine g_nmi (fun x3 => ?_)
      refine g_istore_n (pc := 24) (lv' := [(2, .int x3), (0, .ref (gad γ 0)), (1, .int a1), (3, .int a3)]) dX6_sumOfGrowers_24 rfl (by decide) rfl ?_
      refine g_iinc (pc := 25) (q := 3) (v := a3 + 1) (lv' := [(3, .int (a3 + 1)), (2, .int x3), (0, .ref (gad γ 0)), (1, .int a1)]) dX6_sumOfGrowers_25 rfl rfl (by decide) rfl ?_
      refine g_goto (pc := 28) (tgt := 4) dX6_sumOfGrowers_28 (by decide) ?_
      exact g_sub [2, 3, 1, 0] rfl (ih a1 x3 (a3 + 1) h1)
set_option maxRecDepth 20000 in
theorem ge_X6_sumOfGrowers (γ : Gv) (p0 : Int32) (h : Hst) : G γ RX6 cX6_sumOfGrowers 4 (some .int) [] vI 1 0 0 (lv_args 0 [.ref (gad γ 0), .int p0]) [] h (f_X6_sumOfGrowers p0 h) := by
  show G γ RX6 cX6_sumOfGrowers 4 (some .int) [] vI 1 0 0 [(0, .ref (gad γ 0)), (1, .int p0)] [] h (f_X6_sumOfGrowers p0 h)
  unfold f_X6_sumOfGrowers
  refine g_iconst (pc := 0) (v := 0) dX6_sumOfGrowers_0 (by decide) ?_
  refine g_istore_n (pc := 1) (lv' := [(2, .int 0), (0, .ref (gad γ 0)), (1, .int p0)]) dX6_sumOfGrowers_1 rfl (by decide) rfl ?_
  refine g_iconst (pc := 2) (v := 0) dX6_sumOfGrowers_2 (by decide) ?_
  refine g_istore_n (pc := 3) (lv' := [(3, .int 0), (2, .int 0), (0, .ref (gad γ 0)), (1, .int p0)]) dX6_sumOfGrowers_3 rfl (by decide) rfl ?_
  exact g_sub [2, 3, 1, 0] rfl (glp_X6_sumOfGrowers_4 γ FU p0 0 0 h)
def jb_X1_oilOfGrade_27 (R4 : Int32 → Int32 → Int32 → Hst → Option (Int32 × Hst)) (a1 : Int32) (a2 : Int32) (a3 : Int32) (h : Hst) : Option (Int32 × Hst) :=
  (R4 a1 a2 (a3 + 1) h)
def lp_X1_oilOfGrade_4 : Nat → Int32 → Int32 → Int32 → Hst → Option (Int32 × Hst)
  | 0, _, _, _, _ => none
  | n + 1, a1, a2, a3, h =>
    (if 6 ≤ a3 then
      (some (a2, h))
    else
      gb (f_X1_gradeOf a3 h) fun x2 h1 =>
      (if x2 = a1 then
        gb (f_X1_oilOf a3 h1) fun x4 h3 =>
        gl (a2 + x4) fun x5 =>
        (jb_X1_oilOfGrade_27 (lp_X1_oilOfGrade_4 n) a1 x5 a3 h3)
      else
        (jb_X1_oilOfGrade_27 (lp_X1_oilOfGrade_4 n) a1 a2 a3 h1)))
def f_X1_oilOfGrade (p0 : Int32) (h : Hst) : Option (Int32 × Hst) :=
  (lp_X1_oilOfGrade_4 FU p0 0 0 h)
set_option maxRecDepth 20000 in
theorem gjb_X1_oilOfGrade_27 (γ : Gv) (R4 : Int32 → Int32 → Int32 → Hst → Option (Int32 × Hst)) (hR4 : ∀ (a1 : Int32) (a2 : Int32) (a3 : Int32) (h : Hst), G γ RX1 cX1_oilOfGrade 4 (some .int) [] vI 3 0 4 [(0, .ref (gad γ 10)), (1, .int a1), (2, .int a2), (3, .int a3)] [] h (R4 a1 a2 a3 h)) (a1 : Int32) (a2 : Int32) (a3 : Int32) (h : Hst) : G γ RX1 cX1_oilOfGrade 4 (some .int) [] vI 3 0 27 [(0, .ref (gad γ 10)), (1, .int a1), (2, .int a2), (3, .int a3)] [] h (jb_X1_oilOfGrade_27 R4 a1 a2 a3 h) := by
  unfold jb_X1_oilOfGrade_27
  refine g_iinc (pc := 27) (q := 3) (v := a3 + 1) (lv' := [(3, .int (a3 + 1)), (0, .ref (gad γ 10)), (1, .int a1), (2, .int a2)]) dX1_oilOfGrade_27 rfl rfl (by decide) rfl ?_
  refine g_goto (pc := 30) (tgt := 4) dX1_oilOfGrade_30 (by decide) ?_
  exact g_sub [1, 2, 3, 0] rfl (hR4 a1 a2 (a3 + 1) h)
set_option maxRecDepth 20000 in
theorem glp_X1_oilOfGrade_4 (γ : Gv)  : ∀ (n : Nat) (a1 : Int32) (a2 : Int32) (a3 : Int32) (h : Hst), G γ RX1 cX1_oilOfGrade 4 (some .int) [] vI 3 0 4 [(0, .ref (gad γ 10)), (1, .int a1), (2, .int a2), (3, .int a3)] [] h (lp_X1_oilOfGrade_4 n a1 a2 a3 h) := by
  intro n
  induction n with
  | zero => intro a1 a2 a3 h; exact g_none
  | succ n ih =>
    intro a1 a2 a3 h
    rw [lp_X1_oilOfGrade_4]
    refine g_iload_n (pc := 4) dX1_oilOfGrade_4 rfl 3 rfl ?_
    refine g_bipush (pc := 5) (v := 6) dX1_oilOfGrade_5 (by decide) ?_
    refine g_icmp_ge (pc := 7) (tgt := 33) dX1_oilOfGrade_7 (by decide) ?_ ?_
    · refine g_iload_n (pc := 33) dX1_oilOfGrade_33 rfl 2 rfl ?_
      exact g_ireturn (pc := 34) (ty := .int) dX1_oilOfGrade_34 rfl rfl rfl
    · refine g_aload_n (pc := 10) dX1_oilOfGrade_10 rfl 0 rfl ?_
      refine g_iload_n (pc := 11) dX1_oilOfGrade_11 rfl 3 rfl ?_
      refine g_cI (pc := 12) (st := []) (fun r hr => gRunV (As := [.int a3]) 10 (ge_X1_gradeOf γ a3 h) hr wv_RX1_38 rfl (Nat.le_of_ble_eq_true rfl) (gat_10 _ _) rfl rfl (Nat.le_of_ble_eq_true rfl) (Nat.le_of_ble_eq_true rfl) dX1_oilOfGrade_12) (fun x2 h1 => ?_)
      refine g_iload_n (pc := 15) dX1_oilOfGrade_15 rfl 1 rfl ?_
      refine g_icmp_ne (pc := 16) (tgt := 27) dX1_oilOfGrade_16 (by decide) ?_ ?_
      · exact gjb_X1_oilOfGrade_27 γ (lp_X1_oilOfGrade_4 n) ih a1 a2 a3 h1
      · refine g_iload_n (pc := 19) dX1_oilOfGrade_19 rfl 2 rfl ?_
        refine g_aload_n (pc := 20) dX1_oilOfGrade_20 rfl 0 rfl ?_
        refine g_iload_n (pc := 21) dX1_oilOfGrade_21 rfl 3 rfl ?_
        refine g_cI (pc := 22) (st := [.int a2]) (fun r hr => gRunV (As := [.int a3]) 10 (ge_X1_oilOf γ a3 h1) hr wv_RX1_34 rfl (Nat.le_of_ble_eq_true rfl) (gat_10 _ _) rfl rfl (Nat.le_of_ble_eq_true rfl) (Nat.le_of_ble_eq_true rfl) dX1_oilOfGrade_22) (fun x4 h3 => ?_)
        refine g_iadd (pc := 25) dX1_oilOfGrade_25 ?_
        refine g_nmi (fun x5 => ?_)
        refine g_istore_n (pc := 26) (lv' := [(2, .int x5), (0, .ref (gad γ 10)), (1, .int a1), (3, .int a3)]) dX1_oilOfGrade_26 rfl (by decide) rfl ?_
        exact g_sub [1, 2, 0, 3] rfl (gjb_X1_oilOfGrade_27 γ (lp_X1_oilOfGrade_4 n) ih a1 x5 a3 h3)
set_option maxRecDepth 20000 in
theorem ge_X1_oilOfGrade (γ : Gv) (p0 : Int32) (h : Hst) : G γ RX1 cX1_oilOfGrade 4 (some .int) [] vI 3 0 0 (lv_args 0 [.ref (gad γ 10), .int p0]) [] h (f_X1_oilOfGrade p0 h) := by
  show G γ RX1 cX1_oilOfGrade 4 (some .int) [] vI 3 0 0 [(0, .ref (gad γ 10)), (1, .int p0)] [] h (f_X1_oilOfGrade p0 h)
  unfold f_X1_oilOfGrade
  refine g_iconst (pc := 0) (v := 0) dX1_oilOfGrade_0 (by decide) ?_
  refine g_istore_n (pc := 1) (lv' := [(2, .int 0), (0, .ref (gad γ 10)), (1, .int p0)]) dX1_oilOfGrade_1 rfl (by decide) rfl ?_
  refine g_iconst (pc := 2) (v := 0) dX1_oilOfGrade_2 (by decide) ?_
  refine g_istore_n (pc := 3) (lv' := [(3, .int 0), (2, .int 0), (0, .ref (gad γ 10)), (1, .int p0)]) dX1_oilOfGrade_3 rfl (by decide) rfl ?_
  exact g_sub [2, 3, 1, 0] rfl (glp_X1_oilOfGrade_4 γ FU p0 0 0 h)
def f_X6_count (p0 : Int32) (h : Hst) : Option (Int32 × Hst) :=
  (if p0 = 0 then
    gb (f_X3_get_7 0 h) fun x2 h1 =>
    (some (x2, h1))
  else
  (if p0 = 1 then
    gb (f_X3_get_7 1 h) fun x4 h3 =>
    (some (x4, h3))
  else
  (if p0 = 2 then
    gb (f_X6_lotsWith 5 0 0 h) fun x6 h5 =>
    (some (x6, h5))
  else
  (if p0 = 3 then
    gb (f_X3_get_7 2 h) fun x8 h7 =>
    (some (x8, h7))
  else
  (if p0 = 4 then
    gb (f_X6_residueVariety h) fun x10 h9 =>
    (some (x10, h9))
  else
  (if p0 = 5 then
    gb (f_X3_get_7 4 h) fun x12 h11 =>
    (some (x12, h11))
  else
  (if p0 = 6 then
    gb (f_X3_get_7 5 h) fun x14 h13 =>
    (some (x14, h13))
  else
  (if p0 = 7 then
    gb (f_X3_get_7 6 h) fun x16 h15 =>
    (some (x16, h15))
  else
  (if p0 = 8 then
    gb (f_X1_allOil h) fun x18 h17 =>
    (some (x18, h17))
  else
  (if p0 = 9 then
    gb (f_X6_sumOfGrowers 0 h) fun x20 h19 =>
    (some (x20, h19))
  else
  (if p0 = 10 then
    gb (f_X1_oilOfGrade 0 h) fun x22 h21 =>
    (some (x22, h21))
  else
  (if p0 = 11 then
    gb (f_X6_sumOfGrowers 2 h) fun x24 h23 =>
    (some (x24, h23))
  else
  (if p0 = 12 then
    (some (h.1 1 9, h))
  else
  none)))))))))))))
set_option maxRecDepth 20000 in
theorem ge_X6_count (γ : Gv) (p0 : Int32) (h : Hst) : G γ RX6 cX6_count 2 (some .int) [] vI 4 0 0 (lv_args 0 [.ref (gad γ 0), .int p0]) [] h (f_X6_count p0 h) := by
  show G γ RX6 cX6_count 2 (some .int) [] vI 4 0 0 [(0, .ref (gad γ 0)), (1, .int p0)] [] h (f_X6_count p0 h)
  unfold f_X6_count
  refine g_iload_n (pc := 0) dX6_count_0 rfl 1 rfl ?_
  refine g_case (c := p0 = 0) (fun c0 => ?_) (fun c0 => ?_)
  · refine g_tswI (pc := 1) (tgt := 68) (off := 67) dX6_count_1 (by rw [c0]; decide) (by rw [c0]; decide) (by rw [c0]; decide) (by decide) ?_
    refine g_aload_n (pc := 68) dX6_count_68 rfl 0 rfl ?_
    refine gf_RX6_12_0 (pc := 69) dX6_count_69 ?_
    refine gf_RX6_47_1 (pc := 72) dX6_count_72 ?_
    refine g_iconst (pc := 75) (v := 0) dX6_count_75 (by decide) ?_
    refine g_cI (pc := 76) (st := []) (fun r hr => gRunV (As := [.int 0]) 7 (ge_X3_get_7 γ 0 h) hr wv_RX6_51 rfl (Nat.le_of_ble_eq_true rfl) (gat_7 _ _) rfl rfl (Nat.le_of_ble_eq_true rfl) (Nat.le_of_ble_eq_true rfl) dX6_count_76) (fun x2 h1 => ?_)
    exact g_ireturn (pc := 79) (ty := .int) dX6_count_79 rfl rfl rfl
  refine g_case (c := p0 = 1) (fun c1 => ?_) (fun c1 => ?_)
  · refine g_tswI (pc := 1) (tgt := 80) (off := 79) dX6_count_1 (by rw [c1]; decide) (by rw [c1]; decide) (by rw [c1]; decide) (by decide) ?_
    refine g_aload_n (pc := 80) dX6_count_80 rfl 0 rfl ?_
    refine gf_RX6_12_0 (pc := 81) dX6_count_81 ?_
    refine gf_RX6_47_1 (pc := 84) dX6_count_84 ?_
    refine g_iconst (pc := 87) (v := 1) dX6_count_87 (by decide) ?_
    refine g_cI (pc := 88) (st := []) (fun r hr => gRunV (As := [.int 1]) 7 (ge_X3_get_7 γ 1 h) hr wv_RX6_51 rfl (Nat.le_of_ble_eq_true rfl) (gat_7 _ _) rfl rfl (Nat.le_of_ble_eq_true rfl) (Nat.le_of_ble_eq_true rfl) dX6_count_88) (fun x4 h3 => ?_)
    exact g_ireturn (pc := 91) (ty := .int) dX6_count_91 rfl rfl rfl
  refine g_case (c := p0 = 2) (fun c2 => ?_) (fun c2 => ?_)
  · refine g_tswI (pc := 1) (tgt := 92) (off := 91) dX6_count_1 (by rw [c2]; decide) (by rw [c2]; decide) (by rw [c2]; decide) (by decide) ?_
    refine g_aload_n (pc := 92) dX6_count_92 rfl 0 rfl ?_
    refine g_iconst (pc := 93) (v := 5) dX6_count_93 (by decide) ?_
    refine g_iconst (pc := 94) (v := 0) dX6_count_94 (by decide) ?_
    refine g_iconst (pc := 95) (v := 0) dX6_count_95 (by decide) ?_
    refine g_cI (pc := 96) (st := []) (fun r hr => gRunV (As := [.int 5, .int 0, .int 0]) 0 (ge_X6_lotsWith γ 5 0 0 h) hr wv_RX6_268 rfl (Nat.le_of_ble_eq_true rfl) (gat_0 _ _) rfl rfl (Nat.le_of_ble_eq_true rfl) (Nat.le_of_ble_eq_true rfl) dX6_count_96) (fun x6 h5 => ?_)
    exact g_ireturn (pc := 99) (ty := .int) dX6_count_99 rfl rfl rfl
  refine g_case (c := p0 = 3) (fun c3 => ?_) (fun c3 => ?_)
  · refine g_tswI (pc := 1) (tgt := 100) (off := 99) dX6_count_1 (by rw [c3]; decide) (by rw [c3]; decide) (by rw [c3]; decide) (by decide) ?_
    refine g_aload_n (pc := 100) dX6_count_100 rfl 0 rfl ?_
    refine gf_RX6_12_0 (pc := 101) dX6_count_101 ?_
    refine gf_RX6_47_1 (pc := 104) dX6_count_104 ?_
    refine g_iconst (pc := 107) (v := 2) dX6_count_107 (by decide) ?_
    refine g_cI (pc := 108) (st := []) (fun r hr => gRunV (As := [.int 2]) 7 (ge_X3_get_7 γ 2 h) hr wv_RX6_51 rfl (Nat.le_of_ble_eq_true rfl) (gat_7 _ _) rfl rfl (Nat.le_of_ble_eq_true rfl) (Nat.le_of_ble_eq_true rfl) dX6_count_108) (fun x8 h7 => ?_)
    exact g_ireturn (pc := 111) (ty := .int) dX6_count_111 rfl rfl rfl
  refine g_case (c := p0 = 4) (fun c4 => ?_) (fun c4 => ?_)
  · refine g_tswI (pc := 1) (tgt := 112) (off := 111) dX6_count_1 (by rw [c4]; decide) (by rw [c4]; decide) (by rw [c4]; decide) (by decide) ?_
    refine g_aload_n (pc := 112) dX6_count_112 rfl 0 rfl ?_
    refine g_cI (pc := 113) (st := []) (fun r hr => gRunV (As := []) 0 (ge_X6_residueVariety γ h) hr wv_RX6_284 rfl (Nat.le_of_ble_eq_true rfl) (gat_0 _ _) rfl rfl (Nat.le_of_ble_eq_true rfl) (Nat.le_of_ble_eq_true rfl) dX6_count_113) (fun x10 h9 => ?_)
    exact g_ireturn (pc := 116) (ty := .int) dX6_count_116 rfl rfl rfl
  refine g_case (c := p0 = 5) (fun c5 => ?_) (fun c5 => ?_)
  · refine g_tswI (pc := 1) (tgt := 117) (off := 116) dX6_count_1 (by rw [c5]; decide) (by rw [c5]; decide) (by rw [c5]; decide) (by decide) ?_
    refine g_aload_n (pc := 117) dX6_count_117 rfl 0 rfl ?_
    refine gf_RX6_12_0 (pc := 118) dX6_count_118 ?_
    refine gf_RX6_47_1 (pc := 121) dX6_count_121 ?_
    refine g_iconst (pc := 124) (v := 4) dX6_count_124 (by decide) ?_
    refine g_cI (pc := 125) (st := []) (fun r hr => gRunV (As := [.int 4]) 7 (ge_X3_get_7 γ 4 h) hr wv_RX6_51 rfl (Nat.le_of_ble_eq_true rfl) (gat_7 _ _) rfl rfl (Nat.le_of_ble_eq_true rfl) (Nat.le_of_ble_eq_true rfl) dX6_count_125) (fun x12 h11 => ?_)
    exact g_ireturn (pc := 128) (ty := .int) dX6_count_128 rfl rfl rfl
  refine g_case (c := p0 = 6) (fun c6 => ?_) (fun c6 => ?_)
  · refine g_tswI (pc := 1) (tgt := 129) (off := 128) dX6_count_1 (by rw [c6]; decide) (by rw [c6]; decide) (by rw [c6]; decide) (by decide) ?_
    refine g_aload_n (pc := 129) dX6_count_129 rfl 0 rfl ?_
    refine gf_RX6_12_0 (pc := 130) dX6_count_130 ?_
    refine gf_RX6_47_1 (pc := 133) dX6_count_133 ?_
    refine g_iconst (pc := 136) (v := 5) dX6_count_136 (by decide) ?_
    refine g_cI (pc := 137) (st := []) (fun r hr => gRunV (As := [.int 5]) 7 (ge_X3_get_7 γ 5 h) hr wv_RX6_51 rfl (Nat.le_of_ble_eq_true rfl) (gat_7 _ _) rfl rfl (Nat.le_of_ble_eq_true rfl) (Nat.le_of_ble_eq_true rfl) dX6_count_137) (fun x14 h13 => ?_)
    exact g_ireturn (pc := 140) (ty := .int) dX6_count_140 rfl rfl rfl
  refine g_case (c := p0 = 7) (fun c7 => ?_) (fun c7 => ?_)
  · refine g_tswI (pc := 1) (tgt := 141) (off := 140) dX6_count_1 (by rw [c7]; decide) (by rw [c7]; decide) (by rw [c7]; decide) (by decide) ?_
    refine g_aload_n (pc := 141) dX6_count_141 rfl 0 rfl ?_
    refine gf_RX6_12_0 (pc := 142) dX6_count_142 ?_
    refine gf_RX6_47_1 (pc := 145) dX6_count_145 ?_
    refine g_bipush (pc := 148) (v := 6) dX6_count_148 (by decide) ?_
    refine g_cI (pc := 150) (st := []) (fun r hr => gRunV (As := [.int 6]) 7 (ge_X3_get_7 γ 6 h) hr wv_RX6_51 rfl (Nat.le_of_ble_eq_true rfl) (gat_7 _ _) rfl rfl (Nat.le_of_ble_eq_true rfl) (Nat.le_of_ble_eq_true rfl) dX6_count_150) (fun x16 h15 => ?_)
    exact g_ireturn (pc := 153) (ty := .int) dX6_count_153 rfl rfl rfl
  refine g_case (c := p0 = 8) (fun c8 => ?_) (fun c8 => ?_)
  · refine g_tswI (pc := 1) (tgt := 154) (off := 153) dX6_count_1 (by rw [c8]; decide) (by rw [c8]; decide) (by rw [c8]; decide) (by decide) ?_
    refine g_aload_n (pc := 154) dX6_count_154 rfl 0 rfl ?_
    refine gf_RX6_21_0 (pc := 155) dX6_count_155 ?_
    refine g_cI (pc := 158) (st := []) (fun r hr => gRunV (As := []) 10 (ge_X1_allOil γ h) hr wv_RX6_289 rfl (Nat.le_of_ble_eq_true rfl) (gat_10 _ _) rfl rfl (Nat.le_of_ble_eq_true rfl) (Nat.le_of_ble_eq_true rfl) dX6_count_158) (fun x18 h17 => ?_)
    exact g_ireturn (pc := 161) (ty := .int) dX6_count_161 rfl rfl rfl
  refine g_case (c := p0 = 9) (fun c9 => ?_) (fun c9 => ?_)
  · refine g_tswI (pc := 1) (tgt := 162) (off := 161) dX6_count_1 (by rw [c9]; decide) (by rw [c9]; decide) (by rw [c9]; decide) (by decide) ?_
    refine g_aload_n (pc := 162) dX6_count_162 rfl 0 rfl ?_
    refine g_iconst (pc := 163) (v := 0) dX6_count_163 (by decide) ?_
    refine g_cI (pc := 164) (st := []) (fun r hr => gRunV (As := [.int 0]) 0 (ge_X6_sumOfGrowers γ 0 h) hr wv_RX6_292 rfl (Nat.le_of_ble_eq_true rfl) (gat_0 _ _) rfl rfl (Nat.le_of_ble_eq_true rfl) (Nat.le_of_ble_eq_true rfl) dX6_count_164) (fun x20 h19 => ?_)
    exact g_ireturn (pc := 167) (ty := .int) dX6_count_167 rfl rfl rfl
  refine g_case (c := p0 = 10) (fun c10 => ?_) (fun c10 => ?_)
  · refine g_tswI (pc := 1) (tgt := 168) (off := 167) dX6_count_1 (by rw [c10]; decide) (by rw [c10]; decide) (by rw [c10]; decide) (by decide) ?_
    refine g_aload_n (pc := 168) dX6_count_168 rfl 0 rfl ?_
    refine gf_RX6_21_0 (pc := 169) dX6_count_169 ?_
    refine g_iconst (pc := 172) (v := 0) dX6_count_172 (by decide) ?_
    refine g_cI (pc := 173) (st := []) (fun r hr => gRunV (As := [.int 0]) 10 (ge_X1_oilOfGrade γ 0 h) hr wv_RX6_295 rfl (Nat.le_of_ble_eq_true rfl) (gat_10 _ _) rfl rfl (Nat.le_of_ble_eq_true rfl) (Nat.le_of_ble_eq_true rfl) dX6_count_173) (fun x22 h21 => ?_)
    exact g_ireturn (pc := 176) (ty := .int) dX6_count_176 rfl rfl rfl
  refine g_case (c := p0 = 11) (fun c11 => ?_) (fun c11 => ?_)
  · refine g_tswI (pc := 1) (tgt := 177) (off := 176) dX6_count_1 (by rw [c11]; decide) (by rw [c11]; decide) (by rw [c11]; decide) (by decide) ?_
    refine g_aload_n (pc := 177) dX6_count_177 rfl 0 rfl ?_
    refine g_iconst (pc := 178) (v := 2) dX6_count_178 (by decide) ?_
    refine g_cI (pc := 179) (st := []) (fun r hr => gRunV (As := [.int 2]) 0 (ge_X6_sumOfGrowers γ 2 h) hr wv_RX6_292 rfl (Nat.le_of_ble_eq_true rfl) (gat_0 _ _) rfl rfl (Nat.le_of_ble_eq_true rfl) (Nat.le_of_ble_eq_true rfl) dX6_count_179) (fun x24 h23 => ?_)
    exact g_ireturn (pc := 182) (ty := .int) dX6_count_182 rfl rfl rfl
  refine g_case (c := p0 = 12) (fun c12 => ?_) (fun c12 => ?_)
  · refine g_tswI (pc := 1) (tgt := 183) (off := 182) dX6_count_1 (by rw [c12]; decide) (by rw [c12]; decide) (by rw [c12]; decide) (by decide) ?_
    refine g_aload_n (pc := 183) dX6_count_183 rfl 0 rfl ?_
    refine gf_RX6_12_0 (pc := 184) dX6_count_184 ?_
    refine gf_RX6_260_1 (pc := 187) dX6_count_187 ?_
    exact g_ireturn (pc := 190) (ty := .int) dX6_count_190 rfl rfl rfl
  refine g_tswO (pc := 1) (tgt := 191) dX6_count_1 (by have k := fun (v : Int32) (n : Int) (e : v.toInt = n) (c : ¬ p0 = v) => gne e c; have k0 := k 0 0 (by decide) c0; have k1 := k 1 1 (by decide) c1; have k2 := k 2 2 (by decide) c2; have k3 := k 3 3 (by decide) c3; have k4 := k 4 4 (by decide) c4; have k5 := k 5 5 (by decide) c5; have k6 := k 6 6 (by decide) c6; have k7 := k 7 7 (by decide) c7; have k8 := k 8 8 (by decide) c8; have k9 := k 9 9 (by decide) c9; have k10 := k 10 10 (by decide) c10; have k11 := k 11 11 (by decide) c11; have k12 := k 12 12 (by decide) c12; omega) (by decide) ?_
  exact g_none
def f_X6_grower (p0 : Int32) (p1 : Int32) (h : Hst) : Option (Int32 × Hst) :=
  gbv (f_X6_checkGrower p0 h) fun h1 =>
  (if p1 = 0 then
    gb (f_X5_get_2 p0 0 h1) fun x3 h2 =>
    (some (x3, h2))
  else
  (if p1 = 1 then
    gb (f_X6_lotsWith 0 p0 0 h1) fun x5 h4 =>
    (some (x5, h4))
  else
  (if p1 = 2 then
    gb (f_X6_lotsWith 0 p0 1 h1) fun x7 h6 =>
    (some (x7, h6))
  else
  (if p1 = 3 then
    gb (f_X5_get_2 p0 1 h1) fun x9 h8 =>
    (some (x9, h8))
  else
  (if p1 = 4 then
    gb (f_X5_get_2 p0 2 h1) fun x11 h10 =>
    (some (x11, h10))
  else
  (if p1 = 5 then
    gb (f_X5_get_2 p0 3 h1) fun x13 h12 =>
    (some (x13, h12))
  else
  none))))))
set_option maxRecDepth 20000 in
theorem ge_X6_grower (γ : Gv) (p0 : Int32) (p1 : Int32) (h : Hst) : G γ RX6 cX6_grower 3 (some .int) [] vI 2 0 0 (lv_args 0 [.ref (gad γ 0), .int p0, .int p1]) [] h (f_X6_grower p0 p1 h) := by
  show G γ RX6 cX6_grower 3 (some .int) [] vI 2 0 0 [(0, .ref (gad γ 0)), (1, .int p0), (2, .int p1)] [] h (f_X6_grower p0 p1 h)
  unfold f_X6_grower
  refine g_aload_n (pc := 0) dX6_grower_0 rfl 0 rfl ?_
  refine g_iload_n (pc := 1) dX6_grower_1 rfl 1 rfl ?_
  refine g_cV (pc := 2) (st := []) (fun r hr => gRunV (As := [.int p0]) 0 (ge_X6_checkGrower γ p0 h) hr wv_RX6_71 rfl (Nat.le_of_ble_eq_true rfl) (gat_0 _ _) rfl rfl (Nat.le_of_ble_eq_true rfl) (Nat.le_of_ble_eq_true rfl) dX6_grower_2) (fun h1 => ?_)
  refine g_iload_n (pc := 5) dX6_grower_5 rfl 2 rfl ?_
  refine g_case (c := p1 = 0) (fun c0 => ?_) (fun c0 => ?_)
  · refine g_tswI (pc := 6) (tgt := 44) (off := 38) dX6_grower_6 (by rw [c0]; decide) (by rw [c0]; decide) (by rw [c0]; decide) (by decide) ?_
    refine g_aload_n (pc := 44) dX6_grower_44 rfl 0 rfl ?_
    refine gf_RX6_12_0 (pc := 45) dX6_grower_45 ?_
    refine gf_RX6_200_1 (pc := 48) dX6_grower_48 ?_
    refine g_iload_n (pc := 51) dX6_grower_51 rfl 1 rfl ?_
    refine g_iconst (pc := 52) (v := 0) dX6_grower_52 (by decide) ?_
    refine g_cI (pc := 53) (st := []) (fun r hr => gRunV (As := [.int p0, .int 0]) 2 (ge_X5_get_2 γ p0 0 h1) hr wv_RX6_116 rfl (Nat.le_of_ble_eq_true rfl) (gat_2 _ _) rfl rfl (Nat.le_of_ble_eq_true rfl) (Nat.le_of_ble_eq_true rfl) dX6_grower_53) (fun x3 h2 => ?_)
    exact g_ireturn (pc := 56) (ty := .int) dX6_grower_56 rfl rfl rfl
  refine g_case (c := p1 = 1) (fun c1 => ?_) (fun c1 => ?_)
  · refine g_tswI (pc := 6) (tgt := 57) (off := 51) dX6_grower_6 (by rw [c1]; decide) (by rw [c1]; decide) (by rw [c1]; decide) (by decide) ?_
    refine g_aload_n (pc := 57) dX6_grower_57 rfl 0 rfl ?_
    refine g_iconst (pc := 58) (v := 0) dX6_grower_58 (by decide) ?_
    refine g_iload_n (pc := 59) dX6_grower_59 rfl 1 rfl ?_
    refine g_iconst (pc := 60) (v := 0) dX6_grower_60 (by decide) ?_
    refine g_cI (pc := 61) (st := []) (fun r hr => gRunV (As := [.int 0, .int p0, .int 0]) 0 (ge_X6_lotsWith γ 0 p0 0 h1) hr wv_RX6_268 rfl (Nat.le_of_ble_eq_true rfl) (gat_0 _ _) rfl rfl (Nat.le_of_ble_eq_true rfl) (Nat.le_of_ble_eq_true rfl) dX6_grower_61) (fun x5 h4 => ?_)
    exact g_ireturn (pc := 64) (ty := .int) dX6_grower_64 rfl rfl rfl
  refine g_case (c := p1 = 2) (fun c2 => ?_) (fun c2 => ?_)
  · refine g_tswI (pc := 6) (tgt := 65) (off := 59) dX6_grower_6 (by rw [c2]; decide) (by rw [c2]; decide) (by rw [c2]; decide) (by decide) ?_
    refine g_aload_n (pc := 65) dX6_grower_65 rfl 0 rfl ?_
    refine g_iconst (pc := 66) (v := 0) dX6_grower_66 (by decide) ?_
    refine g_iload_n (pc := 67) dX6_grower_67 rfl 1 rfl ?_
    refine g_iconst (pc := 68) (v := 1) dX6_grower_68 (by decide) ?_
    refine g_cI (pc := 69) (st := []) (fun r hr => gRunV (As := [.int 0, .int p0, .int 1]) 0 (ge_X6_lotsWith γ 0 p0 1 h1) hr wv_RX6_268 rfl (Nat.le_of_ble_eq_true rfl) (gat_0 _ _) rfl rfl (Nat.le_of_ble_eq_true rfl) (Nat.le_of_ble_eq_true rfl) dX6_grower_69) (fun x7 h6 => ?_)
    exact g_ireturn (pc := 72) (ty := .int) dX6_grower_72 rfl rfl rfl
  refine g_case (c := p1 = 3) (fun c3 => ?_) (fun c3 => ?_)
  · refine g_tswI (pc := 6) (tgt := 73) (off := 67) dX6_grower_6 (by rw [c3]; decide) (by rw [c3]; decide) (by rw [c3]; decide) (by decide) ?_
    refine g_aload_n (pc := 73) dX6_grower_73 rfl 0 rfl ?_
    refine gf_RX6_12_0 (pc := 74) dX6_grower_74 ?_
    refine gf_RX6_200_1 (pc := 77) dX6_grower_77 ?_
    refine g_iload_n (pc := 80) dX6_grower_80 rfl 1 rfl ?_
    refine g_iconst (pc := 81) (v := 1) dX6_grower_81 (by decide) ?_
    refine g_cI (pc := 82) (st := []) (fun r hr => gRunV (As := [.int p0, .int 1]) 2 (ge_X5_get_2 γ p0 1 h1) hr wv_RX6_116 rfl (Nat.le_of_ble_eq_true rfl) (gat_2 _ _) rfl rfl (Nat.le_of_ble_eq_true rfl) (Nat.le_of_ble_eq_true rfl) dX6_grower_82) (fun x9 h8 => ?_)
    exact g_ireturn (pc := 85) (ty := .int) dX6_grower_85 rfl rfl rfl
  refine g_case (c := p1 = 4) (fun c4 => ?_) (fun c4 => ?_)
  · refine g_tswI (pc := 6) (tgt := 86) (off := 80) dX6_grower_6 (by rw [c4]; decide) (by rw [c4]; decide) (by rw [c4]; decide) (by decide) ?_
    refine g_aload_n (pc := 86) dX6_grower_86 rfl 0 rfl ?_
    refine gf_RX6_12_0 (pc := 87) dX6_grower_87 ?_
    refine gf_RX6_200_1 (pc := 90) dX6_grower_90 ?_
    refine g_iload_n (pc := 93) dX6_grower_93 rfl 1 rfl ?_
    refine g_iconst (pc := 94) (v := 2) dX6_grower_94 (by decide) ?_
    refine g_cI (pc := 95) (st := []) (fun r hr => gRunV (As := [.int p0, .int 2]) 2 (ge_X5_get_2 γ p0 2 h1) hr wv_RX6_116 rfl (Nat.le_of_ble_eq_true rfl) (gat_2 _ _) rfl rfl (Nat.le_of_ble_eq_true rfl) (Nat.le_of_ble_eq_true rfl) dX6_grower_95) (fun x11 h10 => ?_)
    exact g_ireturn (pc := 98) (ty := .int) dX6_grower_98 rfl rfl rfl
  refine g_case (c := p1 = 5) (fun c5 => ?_) (fun c5 => ?_)
  · refine g_tswI (pc := 6) (tgt := 99) (off := 93) dX6_grower_6 (by rw [c5]; decide) (by rw [c5]; decide) (by rw [c5]; decide) (by decide) ?_
    refine g_aload_n (pc := 99) dX6_grower_99 rfl 0 rfl ?_
    refine gf_RX6_12_0 (pc := 100) dX6_grower_100 ?_
    refine gf_RX6_200_1 (pc := 103) dX6_grower_103 ?_
    refine g_iload_n (pc := 106) dX6_grower_106 rfl 1 rfl ?_
    refine g_iconst (pc := 107) (v := 3) dX6_grower_107 (by decide) ?_
    refine g_cI (pc := 108) (st := []) (fun r hr => gRunV (As := [.int p0, .int 3]) 2 (ge_X5_get_2 γ p0 3 h1) hr wv_RX6_116 rfl (Nat.le_of_ble_eq_true rfl) (gat_2 _ _) rfl rfl (Nat.le_of_ble_eq_true rfl) (Nat.le_of_ble_eq_true rfl) dX6_grower_108) (fun x13 h12 => ?_)
    exact g_ireturn (pc := 111) (ty := .int) dX6_grower_111 rfl rfl rfl
  refine g_tswO (pc := 6) (tgt := 112) dX6_grower_6 (by have k := fun (v : Int32) (n : Int) (e : v.toInt = n) (c : ¬ p1 = v) => gne e c; have k0 := k 0 0 (by decide) c0; have k1 := k 1 1 (by decide) c1; have k2 := k 2 2 (by decide) c2; have k3 := k 3 3 (by decide) c3; have k4 := k 4 4 (by decide) c4; have k5 := k 5 5 (by decide) c5; omega) (by decide) ?_
  exact g_none
def f_X6_tank (p0 : Int32) (p1 : Int32) (h : Hst) : Option (Int32 × Hst) :=
  gbv (f_X6_checkTank p0 h) fun h1 =>
  (if p1 = 0 then
    gb (f_X5_get_4 p0 0 h1) fun x3 h2 =>
    (some (x3, h2))
  else
  (if p1 = 1 then
    gb (f_X1_oilOf p0 h1) fun x5 h4 =>
    (some (x5, h4))
  else
  (if p1 = 2 then
    gb (f_X1_gradeOf p0 h1) fun x7 h6 =>
    (some (x7, h6))
  else
  (if p1 = 3 then
    none
  else
  (if p1 = 4 then
    none
  else
  (if p1 = 5 then
    none
  else
  (if p1 = 6 then
    none
  else
  (if p1 = 7 then
    none
  else
  (if p1 = 8 then
    none
  else
  (if p1 = 9 then
    none
  else
  (if p1 = 10 then
    gb (f_X5_get_4 p0 ((2 + p1) - 10) h1) fun x9 h8 =>
    (some (x9, h8))
  else
  (if p1 = 11 then
    gb (f_X5_get_4 p0 ((2 + p1) - 10) h1) fun x11 h10 =>
    (some (x11, h10))
  else
  (if p1 = 12 then
    gb (f_X5_get_4 p0 ((2 + p1) - 10) h1) fun x13 h12 =>
    (some (x13, h12))
  else
  (if p1 = 13 then
    gb (f_X5_get_4 p0 ((2 + p1) - 10) h1) fun x15 h14 =>
    (some (x15, h14))
  else
  (if p1 = 14 then
    gb (f_X5_get_4 p0 ((2 + p1) - 10) h1) fun x17 h16 =>
    (some (x17, h16))
  else
  none)))))))))))))))
set_option maxRecDepth 20000 in
theorem ge_X6_tank (γ : Gv) (p0 : Int32) (p1 : Int32) (h : Hst) : G γ RX6 cX6_tank 3 (some .int) [] vI 3 0 0 (lv_args 0 [.ref (gad γ 0), .int p0, .int p1]) [] h (f_X6_tank p0 p1 h) := by
  show G γ RX6 cX6_tank 3 (some .int) [] vI 3 0 0 [(0, .ref (gad γ 0)), (1, .int p0), (2, .int p1)] [] h (f_X6_tank p0 p1 h)
  unfold f_X6_tank
  refine g_aload_n (pc := 0) dX6_tank_0 rfl 0 rfl ?_
  refine g_iload_n (pc := 1) dX6_tank_1 rfl 1 rfl ?_
  refine g_cV (pc := 2) (st := []) (fun r hr => gRunV (As := [.int p0]) 0 (ge_X6_checkTank γ p0 h) hr wv_RX6_138 rfl (Nat.le_of_ble_eq_true rfl) (gat_0 _ _) rfl rfl (Nat.le_of_ble_eq_true rfl) (Nat.le_of_ble_eq_true rfl) dX6_tank_2) (fun h1 => ?_)
  refine g_iload_n (pc := 5) dX6_tank_5 rfl 2 rfl ?_
  refine g_case (c := p1 = 0) (fun c0 => ?_) (fun c0 => ?_)
  · refine g_tswI (pc := 6) (tgt := 80) (off := 74) dX6_tank_6 (by rw [c0]; decide) (by rw [c0]; decide) (by rw [c0]; decide) (by decide) ?_
    refine g_aload_n (pc := 80) dX6_tank_80 rfl 0 rfl ?_
    refine gf_RX6_12_0 (pc := 81) dX6_tank_81 ?_
    refine gf_RX6_98_1 (pc := 84) dX6_tank_84 ?_
    refine g_iload_n (pc := 87) dX6_tank_87 rfl 1 rfl ?_
    refine g_iconst (pc := 88) (v := 0) dX6_tank_88 (by decide) ?_
    refine g_cI (pc := 89) (st := []) (fun r hr => gRunV (As := [.int p0, .int 0]) 4 (ge_X5_get_4 γ p0 0 h1) hr wv_RX6_116 rfl (Nat.le_of_ble_eq_true rfl) (gat_4 _ _) rfl rfl (Nat.le_of_ble_eq_true rfl) (Nat.le_of_ble_eq_true rfl) dX6_tank_89) (fun x3 h2 => ?_)
    exact g_ireturn (pc := 92) (ty := .int) dX6_tank_92 rfl rfl rfl
  refine g_case (c := p1 = 1) (fun c1 => ?_) (fun c1 => ?_)
  · refine g_tswI (pc := 6) (tgt := 93) (off := 87) dX6_tank_6 (by rw [c1]; decide) (by rw [c1]; decide) (by rw [c1]; decide) (by decide) ?_
    refine g_aload_n (pc := 93) dX6_tank_93 rfl 0 rfl ?_
    refine gf_RX6_21_0 (pc := 94) dX6_tank_94 ?_
    refine g_iload_n (pc := 97) dX6_tank_97 rfl 1 rfl ?_
    refine g_cI (pc := 98) (st := []) (fun r hr => gRunV (As := [.int p0]) 10 (ge_X1_oilOf γ p0 h1) hr wv_RX6_203 rfl (Nat.le_of_ble_eq_true rfl) (gat_10 _ _) rfl rfl (Nat.le_of_ble_eq_true rfl) (Nat.le_of_ble_eq_true rfl) dX6_tank_98) (fun x5 h4 => ?_)
    exact g_ireturn (pc := 101) (ty := .int) dX6_tank_101 rfl rfl rfl
  refine g_case (c := p1 = 2) (fun c2 => ?_) (fun c2 => ?_)
  · refine g_tswI (pc := 6) (tgt := 102) (off := 96) dX6_tank_6 (by rw [c2]; decide) (by rw [c2]; decide) (by rw [c2]; decide) (by decide) ?_
    refine g_aload_n (pc := 102) dX6_tank_102 rfl 0 rfl ?_
    refine gf_RX6_21_0 (pc := 103) dX6_tank_103 ?_
    refine g_iload_n (pc := 106) dX6_tank_106 rfl 1 rfl ?_
    refine g_cI (pc := 107) (st := []) (fun r hr => gRunV (As := [.int p0]) 10 (ge_X1_gradeOf γ p0 h1) hr wv_RX6_216 rfl (Nat.le_of_ble_eq_true rfl) (gat_10 _ _) rfl rfl (Nat.le_of_ble_eq_true rfl) (Nat.le_of_ble_eq_true rfl) dX6_tank_107) (fun x7 h6 => ?_)
    exact g_ireturn (pc := 110) (ty := .int) dX6_tank_110 rfl rfl rfl
  refine g_case (c := p1 = 3) (fun c3 => ?_) (fun c3 => ?_)
  · refine g_tswI (pc := 6) (tgt := 129) (off := 123) dX6_tank_6 (by rw [c3]; decide) (by rw [c3]; decide) (by rw [c3]; decide) (by decide) ?_
    exact g_none
  refine g_case (c := p1 = 4) (fun c4 => ?_) (fun c4 => ?_)
  · refine g_tswI (pc := 6) (tgt := 129) (off := 123) dX6_tank_6 (by rw [c4]; decide) (by rw [c4]; decide) (by rw [c4]; decide) (by decide) ?_
    exact g_none
  refine g_case (c := p1 = 5) (fun c5 => ?_) (fun c5 => ?_)
  · refine g_tswI (pc := 6) (tgt := 129) (off := 123) dX6_tank_6 (by rw [c5]; decide) (by rw [c5]; decide) (by rw [c5]; decide) (by decide) ?_
    exact g_none
  refine g_case (c := p1 = 6) (fun c6 => ?_) (fun c6 => ?_)
  · refine g_tswI (pc := 6) (tgt := 129) (off := 123) dX6_tank_6 (by rw [c6]; decide) (by rw [c6]; decide) (by rw [c6]; decide) (by decide) ?_
    exact g_none
  refine g_case (c := p1 = 7) (fun c7 => ?_) (fun c7 => ?_)
  · refine g_tswI (pc := 6) (tgt := 129) (off := 123) dX6_tank_6 (by rw [c7]; decide) (by rw [c7]; decide) (by rw [c7]; decide) (by decide) ?_
    exact g_none
  refine g_case (c := p1 = 8) (fun c8 => ?_) (fun c8 => ?_)
  · refine g_tswI (pc := 6) (tgt := 129) (off := 123) dX6_tank_6 (by rw [c8]; decide) (by rw [c8]; decide) (by rw [c8]; decide) (by decide) ?_
    exact g_none
  refine g_case (c := p1 = 9) (fun c9 => ?_) (fun c9 => ?_)
  · refine g_tswI (pc := 6) (tgt := 129) (off := 123) dX6_tank_6 (by rw [c9]; decide) (by rw [c9]; decide) (by rw [c9]; decide) (by decide) ?_
    exact g_none
  refine g_case (c := p1 = 10) (fun c10 => ?_) (fun c10 => ?_)
  · refine g_tswI (pc := 6) (tgt := 111) (off := 105) dX6_tank_6 (by rw [c10]; decide) (by rw [c10]; decide) (by rw [c10]; decide) (by decide) ?_
    refine g_aload_n (pc := 111) dX6_tank_111 rfl 0 rfl ?_
    refine gf_RX6_12_0 (pc := 112) dX6_tank_112 ?_
    refine gf_RX6_98_1 (pc := 115) dX6_tank_115 ?_
    refine g_iload_n (pc := 118) dX6_tank_118 rfl 1 rfl ?_
    refine g_iconst (pc := 119) (v := 2) dX6_tank_119 (by decide) ?_
    refine g_iload_n (pc := 120) dX6_tank_120 rfl 2 rfl ?_
    refine g_iadd (pc := 121) dX6_tank_121 ?_
    refine g_bipush (pc := 122) (v := 10) dX6_tank_122 (by decide) ?_
    refine g_isub (pc := 124) dX6_tank_124 ?_
    refine g_cI (pc := 125) (st := []) (fun r hr => gRunV (As := [.int p0, .int ((2 + p1) - 10)]) 4 (ge_X5_get_4 γ p0 ((2 + p1) - 10) h1) hr wv_RX6_116 rfl (Nat.le_of_ble_eq_true rfl) (gat_4 _ _) rfl rfl (Nat.le_of_ble_eq_true rfl) (Nat.le_of_ble_eq_true rfl) dX6_tank_125) (fun x9 h8 => ?_)
    exact g_ireturn (pc := 128) (ty := .int) dX6_tank_128 rfl rfl rfl
  refine g_case (c := p1 = 11) (fun c11 => ?_) (fun c11 => ?_)
  · refine g_tswI (pc := 6) (tgt := 111) (off := 105) dX6_tank_6 (by rw [c11]; decide) (by rw [c11]; decide) (by rw [c11]; decide) (by decide) ?_
    refine g_aload_n (pc := 111) dX6_tank_111 rfl 0 rfl ?_
    refine gf_RX6_12_0 (pc := 112) dX6_tank_112 ?_
    refine gf_RX6_98_1 (pc := 115) dX6_tank_115 ?_
    refine g_iload_n (pc := 118) dX6_tank_118 rfl 1 rfl ?_
    refine g_iconst (pc := 119) (v := 2) dX6_tank_119 (by decide) ?_
    refine g_iload_n (pc := 120) dX6_tank_120 rfl 2 rfl ?_
    refine g_iadd (pc := 121) dX6_tank_121 ?_
    refine g_bipush (pc := 122) (v := 10) dX6_tank_122 (by decide) ?_
    refine g_isub (pc := 124) dX6_tank_124 ?_
    refine g_cI (pc := 125) (st := []) (fun r hr => gRunV (As := [.int p0, .int ((2 + p1) - 10)]) 4 (ge_X5_get_4 γ p0 ((2 + p1) - 10) h1) hr wv_RX6_116 rfl (Nat.le_of_ble_eq_true rfl) (gat_4 _ _) rfl rfl (Nat.le_of_ble_eq_true rfl) (Nat.le_of_ble_eq_true rfl) dX6_tank_125) (fun x11 h10 => ?_)
    exact g_ireturn (pc := 128) (ty := .int) dX6_tank_128 rfl rfl rfl
  refine g_case (c := p1 = 12) (fun c12 => ?_) (fun c12 => ?_)
  · refine g_tswI (pc := 6) (tgt := 111) (off := 105) dX6_tank_6 (by rw [c12]; decide) (by rw [c12]; decide) (by rw [c12]; decide) (by decide) ?_
    refine g_aload_n (pc := 111) dX6_tank_111 rfl 0 rfl ?_
    refine gf_RX6_12_0 (pc := 112) dX6_tank_112 ?_
    refine gf_RX6_98_1 (pc := 115) dX6_tank_115 ?_
    refine g_iload_n (pc := 118) dX6_tank_118 rfl 1 rfl ?_
    refine g_iconst (pc := 119) (v := 2) dX6_tank_119 (by decide) ?_
    refine g_iload_n (pc := 120) dX6_tank_120 rfl 2 rfl ?_
    refine g_iadd (pc := 121) dX6_tank_121 ?_
    refine g_bipush (pc := 122) (v := 10) dX6_tank_122 (by decide) ?_
    refine g_isub (pc := 124) dX6_tank_124 ?_
    refine g_cI (pc := 125) (st := []) (fun r hr => gRunV (As := [.int p0, .int ((2 + p1) - 10)]) 4 (ge_X5_get_4 γ p0 ((2 + p1) - 10) h1) hr wv_RX6_116 rfl (Nat.le_of_ble_eq_true rfl) (gat_4 _ _) rfl rfl (Nat.le_of_ble_eq_true rfl) (Nat.le_of_ble_eq_true rfl) dX6_tank_125) (fun x13 h12 => ?_)
    exact g_ireturn (pc := 128) (ty := .int) dX6_tank_128 rfl rfl rfl
  refine g_case (c := p1 = 13) (fun c13 => ?_) (fun c13 => ?_)
  · refine g_tswI (pc := 6) (tgt := 111) (off := 105) dX6_tank_6 (by rw [c13]; decide) (by rw [c13]; decide) (by rw [c13]; decide) (by decide) ?_
    refine g_aload_n (pc := 111) dX6_tank_111 rfl 0 rfl ?_
    refine gf_RX6_12_0 (pc := 112) dX6_tank_112 ?_
    refine gf_RX6_98_1 (pc := 115) dX6_tank_115 ?_
    refine g_iload_n (pc := 118) dX6_tank_118 rfl 1 rfl ?_
    refine g_iconst (pc := 119) (v := 2) dX6_tank_119 (by decide) ?_
    refine g_iload_n (pc := 120) dX6_tank_120 rfl 2 rfl ?_
    refine g_iadd (pc := 121) dX6_tank_121 ?_
    refine g_bipush (pc := 122) (v := 10) dX6_tank_122 (by decide) ?_
    refine g_isub (pc := 124) dX6_tank_124 ?_
    refine g_cI (pc := 125) (st := []) (fun r hr => gRunV (As := [.int p0, .int ((2 + p1) - 10)]) 4 (ge_X5_get_4 γ p0 ((2 + p1) - 10) h1) hr wv_RX6_116 rfl (Nat.le_of_ble_eq_true rfl) (gat_4 _ _) rfl rfl (Nat.le_of_ble_eq_true rfl) (Nat.le_of_ble_eq_true rfl) dX6_tank_125) (fun x15 h14 => ?_)
    exact g_ireturn (pc := 128) (ty := .int) dX6_tank_128 rfl rfl rfl
  refine g_case (c := p1 = 14) (fun c14 => ?_) (fun c14 => ?_)
  · refine g_tswI (pc := 6) (tgt := 111) (off := 105) dX6_tank_6 (by rw [c14]; decide) (by rw [c14]; decide) (by rw [c14]; decide) (by decide) ?_
    refine g_aload_n (pc := 111) dX6_tank_111 rfl 0 rfl ?_
    refine gf_RX6_12_0 (pc := 112) dX6_tank_112 ?_
    refine gf_RX6_98_1 (pc := 115) dX6_tank_115 ?_
    refine g_iload_n (pc := 118) dX6_tank_118 rfl 1 rfl ?_
    refine g_iconst (pc := 119) (v := 2) dX6_tank_119 (by decide) ?_
    refine g_iload_n (pc := 120) dX6_tank_120 rfl 2 rfl ?_
    refine g_iadd (pc := 121) dX6_tank_121 ?_
    refine g_bipush (pc := 122) (v := 10) dX6_tank_122 (by decide) ?_
    refine g_isub (pc := 124) dX6_tank_124 ?_
    refine g_cI (pc := 125) (st := []) (fun r hr => gRunV (As := [.int p0, .int ((2 + p1) - 10)]) 4 (ge_X5_get_4 γ p0 ((2 + p1) - 10) h1) hr wv_RX6_116 rfl (Nat.le_of_ble_eq_true rfl) (gat_4 _ _) rfl rfl (Nat.le_of_ble_eq_true rfl) (Nat.le_of_ble_eq_true rfl) dX6_tank_125) (fun x17 h16 => ?_)
    exact g_ireturn (pc := 128) (ty := .int) dX6_tank_128 rfl rfl rfl
  refine g_tswO (pc := 6) (tgt := 129) dX6_tank_6 (by have k := fun (v : Int32) (n : Int) (e : v.toInt = n) (c : ¬ p1 = v) => gne e c; have k0 := k 0 0 (by decide) c0; have k1 := k 1 1 (by decide) c1; have k2 := k 2 2 (by decide) c2; have k3 := k 3 3 (by decide) c3; have k4 := k 4 4 (by decide) c4; have k5 := k 5 5 (by decide) c5; have k6 := k 6 6 (by decide) c6; have k7 := k 7 7 (by decide) c7; have k8 := k 8 8 (by decide) c8; have k9 := k 9 9 (by decide) c9; have k10 := k 10 10 (by decide) c10; have k11 := k 11 11 (by decide) c11; have k12 := k 12 12 (by decide) c12; have k13 := k 13 13 (by decide) c13; have k14 := k 14 14 (by decide) c14; omega) (by decide) ?_
  exact g_none
def f_X6_addGrower  (h : Hst) : Option (Int32 × Hst) :=
  gb (f_X3_get_7 0 h) fun x2 h1 =>
  (if x2 < 8 then
    gbv (f_X0_save h1) fun h3 =>
    gbv (f_X3_add_7 0 1 h3) fun h4 =>
    (some (x2, h4))
  else
    none)
set_option maxRecDepth 20000 in
theorem ge_X6_addGrower (γ : Gv)  (h : Hst) : G γ RX6 cX6_addGrower 2 (some .int) [] vI 2 0 0 (lv_args 0 [.ref (gad γ 0)]) [] h (f_X6_addGrower h) := by
  show G γ RX6 cX6_addGrower 2 (some .int) [] vI 2 0 0 [(0, .ref (gad γ 0))] [] h (f_X6_addGrower h)
  unfold f_X6_addGrower
  refine g_aload_n (pc := 0) dX6_addGrower_0 rfl 0 rfl ?_
  refine gf_RX6_12_0 (pc := 1) dX6_addGrower_1 ?_
  refine gf_RX6_47_1 (pc := 4) dX6_addGrower_4 ?_
  refine g_iconst (pc := 7) (v := 0) dX6_addGrower_7 (by decide) ?_
  refine g_cI (pc := 8) (st := []) (fun r hr => gRunV (As := [.int 0]) 7 (ge_X3_get_7 γ 0 h) hr wv_RX6_51 rfl (Nat.le_of_ble_eq_true rfl) (gat_7 _ _) rfl rfl (Nat.le_of_ble_eq_true rfl) (Nat.le_of_ble_eq_true rfl) dX6_addGrower_8) (fun x2 h1 => ?_)
  refine g_istore_n (pc := 11) (lv' := [(1, .int x2), (0, .ref (gad γ 0))]) dX6_addGrower_11 rfl (by decide) rfl ?_
  refine g_iload_n (pc := 12) dX6_addGrower_12 rfl 0 rfl ?_
  refine g_bipush (pc := 13) (v := 8) dX6_addGrower_13 (by decide) ?_
  refine g_icmp_lt (pc := 15) (tgt := 28) dX6_addGrower_15 (by decide) ?_ ?_
  · refine g_aload_n (pc := 28) dX6_addGrower_28 rfl 1 rfl ?_
    refine gf_RX6_12_0 (pc := 29) dX6_addGrower_29 ?_
    refine g_cV (pc := 32) (st := []) (fun r hr => gRunV (As := []) 1 (ge_X0_save γ h1) hr wv_RX6_64 rfl (Nat.le_of_ble_eq_true rfl) (gat_1 _ _) rfl rfl (Nat.le_of_ble_eq_true rfl) (Nat.le_of_ble_eq_true rfl) dX6_addGrower_32) (fun h3 => ?_)
    refine g_aload_n (pc := 35) dX6_addGrower_35 rfl 1 rfl ?_
    refine gf_RX6_12_0 (pc := 36) dX6_addGrower_36 ?_
    refine gf_RX6_47_1 (pc := 39) dX6_addGrower_39 ?_
    refine g_iconst (pc := 42) (v := 0) dX6_addGrower_42 (by decide) ?_
    refine g_iconst (pc := 43) (v := 1) dX6_addGrower_43 (by decide) ?_
    refine g_cV (pc := 44) (st := []) (fun r hr => gRunV (As := [.int 0, .int 1]) 7 (ge_X3_add_7 γ 0 1 h3) hr wv_RX6_67 rfl (Nat.le_of_ble_eq_true rfl) (gat_7 _ _) rfl rfl (Nat.le_of_ble_eq_true rfl) (Nat.le_of_ble_eq_true rfl) dX6_addGrower_44) (fun h4 => ?_)
    refine g_iload_n (pc := 47) dX6_addGrower_47 rfl 0 rfl ?_
    exact g_ireturn (pc := 48) (ty := .int) dX6_addGrower_48 rfl rfl rfl
  · exact g_none
def f_X6_addTank (p0 : Int32) (h : Hst) : Option (Int32 × Hst) :=
  gb (f_X6_isOutside p0 100 20000 h) fun x2 h1 =>
  (if x2 = 0 then
    gb (f_X3_get_7 2 h1) fun x4 h3 =>
    (if x4 < 6 then
      gbv (f_X0_save h3) fun h5 =>
      gbv (f_X5_put_4 x4 0 p0 h5) fun h6 =>
      gbv (f_X3_add_7 2 1 h6) fun h7 =>
      (some (x4, h7))
    else
      none)
  else
    none)
set_option maxRecDepth 20000 in
theorem ge_X6_addTank (γ : Gv) (p0 : Int32) (h : Hst) : G γ RX6 cX6_addTank 3 (some .int) [] vI 2 0 0 (lv_args 0 [.ref (gad γ 0), .int p0]) [] h (f_X6_addTank p0 h) := by
  show G γ RX6 cX6_addTank 3 (some .int) [] vI 2 0 0 [(0, .ref (gad γ 0)), (1, .int p0)] [] h (f_X6_addTank p0 h)
  unfold f_X6_addTank
  refine g_iload_n (pc := 0) dX6_addTank_0 rfl 1 rfl ?_
  refine g_bipush (pc := 1) (v := 100) dX6_addTank_1 (by decide) ?_
  refine g_sipush (pc := 3) (v := 20000) dX6_addTank_3 (by decide) ?_
  refine g_cI (pc := 6) (st := []) (fun r hr => gRunS (As := [.int p0, .int 100, .int 20000]) (ge_X6_isOutside γ p0 100 20000 h) hr wv_RX6_79 rfl (Nat.le_of_ble_eq_true rfl) rfl (Nat.le_of_ble_eq_true rfl) (Nat.le_of_ble_eq_true rfl) dX6_addTank_6) (fun x2 h1 => ?_)
  refine g_if_eq (pc := 9) (tgt := 22) dX6_addTank_9 (by decide) ?_ ?_
  · refine g_aload_n (pc := 22) dX6_addTank_22 rfl 0 rfl ?_
    refine gf_RX6_12_0 (pc := 23) dX6_addTank_23 ?_
    refine gf_RX6_47_1 (pc := 26) dX6_addTank_26 ?_
    refine g_iconst (pc := 29) (v := 2) dX6_addTank_29 (by decide) ?_
    refine g_cI (pc := 30) (st := []) (fun r hr => gRunV (As := [.int 2]) 7 (ge_X3_get_7 γ 2 h1) hr wv_RX6_51 rfl (Nat.le_of_ble_eq_true rfl) (gat_7 _ _) rfl rfl (Nat.le_of_ble_eq_true rfl) (Nat.le_of_ble_eq_true rfl) dX6_addTank_30) (fun x4 h3 => ?_)
    refine g_istore_n (pc := 33) (lv' := [(2, .int x4), (0, .ref (gad γ 0)), (1, .int p0)]) dX6_addTank_33 rfl (by decide) rfl ?_
    refine g_iload_n (pc := 34) dX6_addTank_34 rfl 0 rfl ?_
    refine g_bipush (pc := 35) (v := 6) dX6_addTank_35 (by decide) ?_
    refine g_icmp_lt (pc := 37) (tgt := 50) dX6_addTank_37 (by decide) ?_ ?_
    · refine g_aload_n (pc := 50) dX6_addTank_50 rfl 1 rfl ?_
      refine gf_RX6_12_0 (pc := 51) dX6_addTank_51 ?_
      refine g_cV (pc := 54) (st := []) (fun r hr => gRunV (As := []) 1 (ge_X0_save γ h3) hr wv_RX6_64 rfl (Nat.le_of_ble_eq_true rfl) (gat_1 _ _) rfl rfl (Nat.le_of_ble_eq_true rfl) (Nat.le_of_ble_eq_true rfl) dX6_addTank_54) (fun h5 => ?_)
      refine g_aload_n (pc := 57) dX6_addTank_57 rfl 1 rfl ?_
      refine gf_RX6_12_0 (pc := 58) dX6_addTank_58 ?_
      refine gf_RX6_98_1 (pc := 61) dX6_addTank_61 ?_
      refine g_iload_n (pc := 64) dX6_addTank_64 rfl 0 rfl ?_
      refine g_iconst (pc := 65) (v := 0) dX6_addTank_65 (by decide) ?_
      refine g_iload_n (pc := 66) dX6_addTank_66 rfl 2 rfl ?_
      refine g_cV (pc := 67) (st := []) (fun r hr => gRunV (As := [.int x4, .int 0, .int p0]) 4 (ge_X5_put_4 γ x4 0 p0 h5) hr wv_RX6_102 rfl (Nat.le_of_ble_eq_true rfl) (gat_4 _ _) rfl rfl (Nat.le_of_ble_eq_true rfl) (Nat.le_of_ble_eq_true rfl) dX6_addTank_67) (fun h6 => ?_)
      refine g_aload_n (pc := 70) dX6_addTank_70 rfl 1 rfl ?_
      refine gf_RX6_12_0 (pc := 71) dX6_addTank_71 ?_
      refine gf_RX6_47_1 (pc := 74) dX6_addTank_74 ?_
      refine g_iconst (pc := 77) (v := 2) dX6_addTank_77 (by decide) ?_
      refine g_iconst (pc := 78) (v := 1) dX6_addTank_78 (by decide) ?_
      refine g_cV (pc := 79) (st := []) (fun r hr => gRunV (As := [.int 2, .int 1]) 7 (ge_X3_add_7 γ 2 1 h6) hr wv_RX6_67 rfl (Nat.le_of_ble_eq_true rfl) (gat_7 _ _) rfl rfl (Nat.le_of_ble_eq_true rfl) (Nat.le_of_ble_eq_true rfl) dX6_addTank_79) (fun h7 => ?_)
      refine g_iload_n (pc := 82) dX6_addTank_82 rfl 0 rfl ?_
      exact g_ireturn (pc := 83) (ty := .int) dX6_addTank_83 rfl rfl rfl
    · exact g_none
  · exact g_none
def lp_X1_oilOfVariety_4 : Nat → Int32 → Int32 → Int32 → Hst → Option (Int32 × Hst)
  | 0, _, _, _, _ => none
  | n + 1, a1, a2, a3, h =>
    (if 6 ≤ a3 then
      (some (a2, h))
    else
      gb (f_X5_get_4 a3 (2 + a1) h) fun x2 h1 =>
      gl (a2 + x2) fun x3 =>
      ((lp_X1_oilOfVariety_4 n) a1 x3 (a3 + 1) h1))
def f_X1_oilOfVariety (p0 : Int32) (h : Hst) : Option (Int32 × Hst) :=
  (lp_X1_oilOfVariety_4 FU p0 0 0 h)
set_option maxRecDepth 20000 in
theorem glp_X1_oilOfVariety_4 (γ : Gv)  : ∀ (n : Nat) (a1 : Int32) (a2 : Int32) (a3 : Int32) (h : Hst), G γ RX1 cX1_oilOfVariety 4 (some .int) [] vI 1 0 4 [(0, .ref (gad γ 10)), (1, .int a1), (2, .int a2), (3, .int a3)] [] h (lp_X1_oilOfVariety_4 n a1 a2 a3 h) := by
  intro n
  induction n with
  | zero => intro a1 a2 a3 h; exact g_none
  | succ n ih =>
    intro a1 a2 a3 h
    rw [lp_X1_oilOfVariety_4]
    refine g_iload_n (pc := 4) dX1_oilOfVariety_4 rfl 3 rfl ?_
    refine g_bipush (pc := 5) (v := 6) dX1_oilOfVariety_5 (by decide) ?_
    refine g_icmp_ge (pc := 7) (tgt := 33) dX1_oilOfVariety_7 (by decide) ?_ ?_
    · refine g_iload_n (pc := 33) dX1_oilOfVariety_33 rfl 2 rfl ?_
      exact g_ireturn (pc := 34) (ty := .int) dX1_oilOfVariety_34 rfl rfl rfl
    · refine g_iload_n (pc := 10) dX1_oilOfVariety_10 rfl 2 rfl ?_
      refine g_aload_n (pc := 11) dX1_oilOfVariety_11 rfl 0 rfl ?_
      refine gf_RX1_9_10 (pc := 12) dX1_oilOfVariety_12 ?_
      refine gf_RX1_22_1 (pc := 15) dX1_oilOfVariety_15 ?_
      refine g_iload_n (pc := 18) dX1_oilOfVariety_18 rfl 3 rfl ?_
      refine g_iconst (pc := 19) (v := 2) dX1_oilOfVariety_19 (by decide) ?_
      refine g_iload_n (pc := 20) dX1_oilOfVariety_20 rfl 1 rfl ?_
      refine g_iadd (pc := 21) dX1_oilOfVariety_21 ?_
      refine g_cI (pc := 22) (st := [.int a2]) (fun r hr => gRunV (As := [.int a3, .int (2 + a1)]) 4 (ge_X5_get_4 γ a3 (2 + a1) h) hr wv_RX1_28 rfl (Nat.le_of_ble_eq_true rfl) (gat_4 _ _) rfl rfl (Nat.le_of_ble_eq_true rfl) (Nat.le_of_ble_eq_true rfl) dX1_oilOfVariety_22) (fun x2 h1 => ?_)
      refine g_iadd (pc := 25) dX1_oilOfVariety_25 ?_
      refine g_nmi (fun x3 => ?_)
      refine g_istore_n (pc := 26) (lv' := [(2, .int x3), (0, .ref (gad γ 10)), (1, .int a1), (3, .int a3)]) dX1_oilOfVariety_26 rfl (by decide) rfl ?_
      refine g_iinc (pc := 27) (q := 3) (v := a3 + 1) (lv' := [(3, .int (a3 + 1)), (2, .int x3), (0, .ref (gad γ 10)), (1, .int a1)]) dX1_oilOfVariety_27 rfl rfl (by decide) rfl ?_
      refine g_goto (pc := 30) (tgt := 4) dX1_oilOfVariety_30 (by decide) ?_
      exact g_sub [2, 3, 1, 0] rfl (ih a1 x3 (a3 + 1) h1)
set_option maxRecDepth 20000 in
theorem ge_X1_oilOfVariety (γ : Gv) (p0 : Int32) (h : Hst) : G γ RX1 cX1_oilOfVariety 4 (some .int) [] vI 1 0 0 (lv_args 0 [.ref (gad γ 10), .int p0]) [] h (f_X1_oilOfVariety p0 h) := by
  show G γ RX1 cX1_oilOfVariety 4 (some .int) [] vI 1 0 0 [(0, .ref (gad γ 10)), (1, .int p0)] [] h (f_X1_oilOfVariety p0 h)
  unfold f_X1_oilOfVariety
  refine g_iconst (pc := 0) (v := 0) dX1_oilOfVariety_0 (by decide) ?_
  refine g_istore_n (pc := 1) (lv' := [(2, .int 0), (0, .ref (gad γ 10)), (1, .int p0)]) dX1_oilOfVariety_1 rfl (by decide) rfl ?_
  refine g_iconst (pc := 2) (v := 0) dX1_oilOfVariety_2 (by decide) ?_
  refine g_istore_n (pc := 3) (lv' := [(3, .int 0), (2, .int 0), (0, .ref (gad γ 10)), (1, .int p0)]) dX1_oilOfVariety_3 rfl (by decide) rfl ?_
  exact g_sub [2, 3, 1, 0] rfl (glp_X1_oilOfVariety_4 γ FU p0 0 0 h)
def jb_X6_variety_110  (s0 : Int32) (h : Hst) : Option (Int32 × Hst) :=
  (some (s0, h))
def f_X6_variety (p0 : Int32) (p1 : Int32) (h : Hst) : Option (Int32 × Hst) :=
  gbv (f_X6_checkVariety p0 h) fun h1 =>
  (if p1 = 0 then
    gb (f_X5_get_5 p0 0 h1) fun x3 h2 =>
    (some (x3, h2))
  else
  (if p1 = 1 then
    gb (f_X5_get_5 p0 1 h1) fun x5 h4 =>
    (some (x5, h4))
  else
  (if p1 = 2 then
    gb (f_X1_oilOfVariety p0 h1) fun x7 h6 =>
    (some (x7, h6))
  else
  (if p1 = 3 then
    gb (f_X6_residueVariety h1) fun x9 h8 =>
    (if x9 = p0 then
      gb (f_X3_get_7 4 h8) fun x11 h10 =>
      (jb_X6_variety_110 x11 h10)
    else
      (jb_X6_variety_110 0 h8))
  else
  (if p1 = 4 then
    gb (f_X5_get_5 p0 2 h1) fun x13 h12 =>
    (some (x13, h12))
  else
  (if p1 = 5 then
    gb (f_X5_get_5 p0 3 h1) fun x15 h14 =>
    (some (x15, h14))
  else
  (if p1 = 6 then
    gb (f_X5_get_5 p0 4 h1) fun x17 h16 =>
    (some (x17, h16))
  else
  (if p1 = 7 then
    gb (f_X6_lotsWith 1 p0 1 h1) fun x19 h18 =>
    (some (x19, h18))
  else
  none))))))))
set_option maxRecDepth 20000 in
theorem gjb_X6_variety_110 (γ : Gv)  (s0 : Int32) (h : Hst) : G γ RX6 cX6_variety 3 (some .int) [] vI 2 0 110 [] [.int s0] h (jb_X6_variety_110 s0 h) := by
  unfold jb_X6_variety_110
  exact g_ireturn (pc := 110) (ty := .int) dX6_variety_110 rfl rfl rfl
set_option maxRecDepth 20000 in
theorem ge_X6_variety (γ : Gv) (p0 : Int32) (p1 : Int32) (h : Hst) : G γ RX6 cX6_variety 3 (some .int) [] vI 2 0 0 (lv_args 0 [.ref (gad γ 0), .int p0, .int p1]) [] h (f_X6_variety p0 p1 h) := by
  show G γ RX6 cX6_variety 3 (some .int) [] vI 2 0 0 [(0, .ref (gad γ 0)), (1, .int p0), (2, .int p1)] [] h (f_X6_variety p0 p1 h)
  unfold f_X6_variety
  refine g_iload_n (pc := 0) dX6_variety_0 rfl 1 rfl ?_
  refine g_cV (pc := 1) (st := []) (fun r hr => gRunS (As := [.int p0]) (ge_X6_checkVariety γ p0 h) hr wv_RX6_108 rfl (Nat.le_of_ble_eq_true rfl) rfl (Nat.le_of_ble_eq_true rfl) (Nat.le_of_ble_eq_true rfl) dX6_variety_1) (fun h1 => ?_)
  refine g_iload_n (pc := 4) dX6_variety_4 rfl 2 rfl ?_
  refine g_case (c := p1 = 0) (fun c0 => ?_) (fun c0 => ?_)
  · refine g_tswI (pc := 5) (tgt := 52) (off := 47) dX6_variety_5 (by rw [c0]; decide) (by rw [c0]; decide) (by rw [c0]; decide) (by decide) ?_
    refine g_aload_n (pc := 52) dX6_variety_52 rfl 0 rfl ?_
    refine gf_RX6_12_0 (pc := 53) dX6_variety_53 ?_
    refine gf_RX6_113_1 (pc := 56) dX6_variety_56 ?_
    refine g_iload_n (pc := 59) dX6_variety_59 rfl 1 rfl ?_
    refine g_iconst (pc := 60) (v := 0) dX6_variety_60 (by decide) ?_
    refine g_cI (pc := 61) (st := []) (fun r hr => gRunV (As := [.int p0, .int 0]) 5 (ge_X5_get_5 γ p0 0 h1) hr wv_RX6_116 rfl (Nat.le_of_ble_eq_true rfl) (gat_5 _ _) rfl rfl (Nat.le_of_ble_eq_true rfl) (Nat.le_of_ble_eq_true rfl) dX6_variety_61) (fun x3 h2 => ?_)
    exact g_ireturn (pc := 64) (ty := .int) dX6_variety_64 rfl rfl rfl
  refine g_case (c := p1 = 1) (fun c1 => ?_) (fun c1 => ?_)
  · refine g_tswI (pc := 5) (tgt := 65) (off := 60) dX6_variety_5 (by rw [c1]; decide) (by rw [c1]; decide) (by rw [c1]; decide) (by decide) ?_
    refine g_aload_n (pc := 65) dX6_variety_65 rfl 0 rfl ?_
    refine gf_RX6_12_0 (pc := 66) dX6_variety_66 ?_
    refine gf_RX6_113_1 (pc := 69) dX6_variety_69 ?_
    refine g_iload_n (pc := 72) dX6_variety_72 rfl 1 rfl ?_
    refine g_iconst (pc := 73) (v := 1) dX6_variety_73 (by decide) ?_
    refine g_cI (pc := 74) (st := []) (fun r hr => gRunV (As := [.int p0, .int 1]) 5 (ge_X5_get_5 γ p0 1 h1) hr wv_RX6_116 rfl (Nat.le_of_ble_eq_true rfl) (gat_5 _ _) rfl rfl (Nat.le_of_ble_eq_true rfl) (Nat.le_of_ble_eq_true rfl) dX6_variety_74) (fun x5 h4 => ?_)
    exact g_ireturn (pc := 77) (ty := .int) dX6_variety_77 rfl rfl rfl
  refine g_case (c := p1 = 2) (fun c2 => ?_) (fun c2 => ?_)
  · refine g_tswI (pc := 5) (tgt := 78) (off := 73) dX6_variety_5 (by rw [c2]; decide) (by rw [c2]; decide) (by rw [c2]; decide) (by decide) ?_
    refine g_aload_n (pc := 78) dX6_variety_78 rfl 0 rfl ?_
    refine gf_RX6_21_0 (pc := 79) dX6_variety_79 ?_
    refine g_iload_n (pc := 82) dX6_variety_82 rfl 1 rfl ?_
    refine g_cI (pc := 83) (st := []) (fun r hr => gRunV (As := [.int p0]) 10 (ge_X1_oilOfVariety γ p0 h1) hr wv_RX6_281 rfl (Nat.le_of_ble_eq_true rfl) (gat_10 _ _) rfl rfl (Nat.le_of_ble_eq_true rfl) (Nat.le_of_ble_eq_true rfl) dX6_variety_83) (fun x7 h6 => ?_)
    exact g_ireturn (pc := 86) (ty := .int) dX6_variety_86 rfl rfl rfl
  refine g_case (c := p1 = 3) (fun c3 => ?_) (fun c3 => ?_)
  · refine g_tswI (pc := 5) (tgt := 87) (off := 82) dX6_variety_5 (by rw [c3]; decide) (by rw [c3]; decide) (by rw [c3]; decide) (by decide) ?_
    refine g_aload_n (pc := 87) dX6_variety_87 rfl 0 rfl ?_
    refine g_cI (pc := 88) (st := []) (fun r hr => gRunV (As := []) 0 (ge_X6_residueVariety γ h1) hr wv_RX6_284 rfl (Nat.le_of_ble_eq_true rfl) (gat_0 _ _) rfl rfl (Nat.le_of_ble_eq_true rfl) (Nat.le_of_ble_eq_true rfl) dX6_variety_88) (fun x9 h8 => ?_)
    refine g_iload_n (pc := 91) dX6_variety_91 rfl 1 rfl ?_
    refine g_icmp_ne (pc := 92) (tgt := 109) dX6_variety_92 (by decide) ?_ ?_
    · refine g_iconst (pc := 109) (v := 0) dX6_variety_109 (by decide) ?_
      exact g_sub [] rfl (gjb_X6_variety_110 γ 0 h8)
    · refine g_aload_n (pc := 95) dX6_variety_95 rfl 0 rfl ?_
      refine gf_RX6_12_0 (pc := 96) dX6_variety_96 ?_
      refine gf_RX6_47_1 (pc := 99) dX6_variety_99 ?_
      refine g_iconst (pc := 102) (v := 4) dX6_variety_102 (by decide) ?_
      refine g_cI (pc := 103) (st := []) (fun r hr => gRunV (As := [.int 4]) 7 (ge_X3_get_7 γ 4 h8) hr wv_RX6_51 rfl (Nat.le_of_ble_eq_true rfl) (gat_7 _ _) rfl rfl (Nat.le_of_ble_eq_true rfl) (Nat.le_of_ble_eq_true rfl) dX6_variety_103) (fun x11 h10 => ?_)
      refine g_goto (pc := 106) (tgt := 110) dX6_variety_106 (by decide) ?_
      exact g_sub [] rfl (gjb_X6_variety_110 γ x11 h10)
  refine g_case (c := p1 = 4) (fun c4 => ?_) (fun c4 => ?_)
  · refine g_tswI (pc := 5) (tgt := 111) (off := 106) dX6_variety_5 (by rw [c4]; decide) (by rw [c4]; decide) (by rw [c4]; decide) (by decide) ?_
    refine g_aload_n (pc := 111) dX6_variety_111 rfl 0 rfl ?_
    refine gf_RX6_12_0 (pc := 112) dX6_variety_112 ?_
    refine gf_RX6_113_1 (pc := 115) dX6_variety_115 ?_
    refine g_iload_n (pc := 118) dX6_variety_118 rfl 1 rfl ?_
    refine g_iconst (pc := 119) (v := 2) dX6_variety_119 (by decide) ?_
    refine g_cI (pc := 120) (st := []) (fun r hr => gRunV (As := [.int p0, .int 2]) 5 (ge_X5_get_5 γ p0 2 h1) hr wv_RX6_116 rfl (Nat.le_of_ble_eq_true rfl) (gat_5 _ _) rfl rfl (Nat.le_of_ble_eq_true rfl) (Nat.le_of_ble_eq_true rfl) dX6_variety_120) (fun x13 h12 => ?_)
    exact g_ireturn (pc := 123) (ty := .int) dX6_variety_123 rfl rfl rfl
  refine g_case (c := p1 = 5) (fun c5 => ?_) (fun c5 => ?_)
  · refine g_tswI (pc := 5) (tgt := 124) (off := 119) dX6_variety_5 (by rw [c5]; decide) (by rw [c5]; decide) (by rw [c5]; decide) (by decide) ?_
    refine g_aload_n (pc := 124) dX6_variety_124 rfl 0 rfl ?_
    refine gf_RX6_12_0 (pc := 125) dX6_variety_125 ?_
    refine gf_RX6_113_1 (pc := 128) dX6_variety_128 ?_
    refine g_iload_n (pc := 131) dX6_variety_131 rfl 1 rfl ?_
    refine g_iconst (pc := 132) (v := 3) dX6_variety_132 (by decide) ?_
    refine g_cI (pc := 133) (st := []) (fun r hr => gRunV (As := [.int p0, .int 3]) 5 (ge_X5_get_5 γ p0 3 h1) hr wv_RX6_116 rfl (Nat.le_of_ble_eq_true rfl) (gat_5 _ _) rfl rfl (Nat.le_of_ble_eq_true rfl) (Nat.le_of_ble_eq_true rfl) dX6_variety_133) (fun x15 h14 => ?_)
    exact g_ireturn (pc := 136) (ty := .int) dX6_variety_136 rfl rfl rfl
  refine g_case (c := p1 = 6) (fun c6 => ?_) (fun c6 => ?_)
  · refine g_tswI (pc := 5) (tgt := 137) (off := 132) dX6_variety_5 (by rw [c6]; decide) (by rw [c6]; decide) (by rw [c6]; decide) (by decide) ?_
    refine g_aload_n (pc := 137) dX6_variety_137 rfl 0 rfl ?_
    refine gf_RX6_12_0 (pc := 138) dX6_variety_138 ?_
    refine gf_RX6_113_1 (pc := 141) dX6_variety_141 ?_
    refine g_iload_n (pc := 144) dX6_variety_144 rfl 1 rfl ?_
    refine g_iconst (pc := 145) (v := 4) dX6_variety_145 (by decide) ?_
    refine g_cI (pc := 146) (st := []) (fun r hr => gRunV (As := [.int p0, .int 4]) 5 (ge_X5_get_5 γ p0 4 h1) hr wv_RX6_116 rfl (Nat.le_of_ble_eq_true rfl) (gat_5 _ _) rfl rfl (Nat.le_of_ble_eq_true rfl) (Nat.le_of_ble_eq_true rfl) dX6_variety_146) (fun x17 h16 => ?_)
    exact g_ireturn (pc := 149) (ty := .int) dX6_variety_149 rfl rfl rfl
  refine g_case (c := p1 = 7) (fun c7 => ?_) (fun c7 => ?_)
  · refine g_tswI (pc := 5) (tgt := 150) (off := 145) dX6_variety_5 (by rw [c7]; decide) (by rw [c7]; decide) (by rw [c7]; decide) (by decide) ?_
    refine g_aload_n (pc := 150) dX6_variety_150 rfl 0 rfl ?_
    refine g_iconst (pc := 151) (v := 1) dX6_variety_151 (by decide) ?_
    refine g_iload_n (pc := 152) dX6_variety_152 rfl 1 rfl ?_
    refine g_iconst (pc := 153) (v := 1) dX6_variety_153 (by decide) ?_
    refine g_cI (pc := 154) (st := []) (fun r hr => gRunV (As := [.int 1, .int p0, .int 1]) 0 (ge_X6_lotsWith γ 1 p0 1 h1) hr wv_RX6_268 rfl (Nat.le_of_ble_eq_true rfl) (gat_0 _ _) rfl rfl (Nat.le_of_ble_eq_true rfl) (Nat.le_of_ble_eq_true rfl) dX6_variety_154) (fun x19 h18 => ?_)
    exact g_ireturn (pc := 157) (ty := .int) dX6_variety_157 rfl rfl rfl
  refine g_tswO (pc := 5) (tgt := 158) dX6_variety_5 (by have k := fun (v : Int32) (n : Int) (e : v.toInt = n) (c : ¬ p1 = v) => gne e c; have k0 := k 0 0 (by decide) c0; have k1 := k 1 1 (by decide) c1; have k2 := k 2 2 (by decide) c2; have k3 := k 3 3 (by decide) c3; have k4 := k 4 4 (by decide) c4; have k5 := k 5 5 (by decide) c5; have k6 := k 6 6 (by decide) c6; have k7 := k 7 7 (by decide) c7; omega) (by decide) ?_
  exact g_none
